/-! what a select means does not hang on the addresses of its trees -/
theorem sxw_look_can {dC dR : hd_X} {row row' cond : Option Nat} : ∀ (n : Nat) (l4 l5 : Int32) (a1 a2 : Nat → Int32) (a3 : Nat → Int64) (a4 : Int32) (a5 a6 a7 : Nat → Int32) (r : Nat → Int64) (c k : Int32),
    sxw_lookAtAll_L14 dC dR n l4 l5 a1 a2 a3 a4 a5 a6 a7 r c k row cond = sxw_lookAtAll_L14 dC dR n l4 l5 a1 a2 a3 a4 a5 a6 a7 r c k row' (cond.map fun _ => 0) := by
  intro n
  induction n with
  | zero => intros; rfl
  | succ n ih =>
    intro l4 l5 a1 a2 a3 a4 a5 a6 a7 r c k
    have j : ∀ (l6 : Int32) (s0 : Int64) (r : Nat → Int64) (c k : Int32), sxw_lookAtAll_J70 dR (sxw_lookAtAll_L14 dC dR n) l4 l5 l6 s0 a1 a2 a3 a4 a5 a6 a7 r c k row cond = sxw_lookAtAll_J70 dR (sxw_lookAtAll_L14 dC dR n) l4 l5 l6 s0 a1 a2 a3 a4 a5 a6 a7 r c k row' (cond.map fun _ => 0) := by
      intro l6 s0 r c k
      unfold sxw_lookAtAll_J70
      rw [ih]
      have e : (fun v106 : Int64 => if sxv_isError v106 = 0 then (sxw_add v106 r c).bind fun v128 => sxw_lookAtAll_L14 dC dR n l4 (l5 + 1) a1 a2 a3 a4 a5 a6 a7 v128.1 v128.2 k row cond else some (sxv_contentOf v106, r, c, k)) = (fun v106 : Int64 => if sxv_isError v106 = 0 then (sxw_add v106 r c).bind fun v128 => sxw_lookAtAll_L14 dC dR n l4 (l5 + 1) a1 a2 a3 a4 a5 a6 a7 v128.1 v128.2 k row' (cond.map fun _ => 0) else some (sxv_contentOf v106, r, c, k)) := by
        funext v106
        have e2 : (fun v128 : (Nat → Int64) × Int32 => sxw_lookAtAll_L14 dC dR n l4 (l5 + 1) a1 a2 a3 a4 a5 a6 a7 v128.1 v128.2 k row cond) = (fun v128 : (Nat → Int64) × Int32 => sxw_lookAtAll_L14 dC dR n l4 (l5 + 1) a1 a2 a3 a4 a5 a6 a7 v128.1 v128.2 k row' (cond.map fun _ => 0)) := by
          funext v128
          exact ih _ _ _ _ _ _ _ _ _ _ _ _
        rw [e2]
      rw [e]
    show sxw_lookAtAll_L14_B dC dR (sxw_lookAtAll_L14 dC dR n) l4 l5 a1 a2 a3 a4 a5 a6 a7 r c k row cond = sxw_lookAtAll_L14_B dC dR (sxw_lookAtAll_L14 dC dR n) l4 l5 a1 a2 a3 a4 a5 a6 a7 r c k row' (cond.map fun _ => 0)
    unfold sxw_lookAtAll_L14_B
    cases cond with
    | none =>
      show (if l4 ≤ l5 then _ else if hq_I l5 192 = true then if (none : Option Nat) = none then _ else _ else none) = (if l4 ≤ l5 then _ else if hq_I l5 192 = true then if (none : Option Nat) = none then _ else _ else none)
      rw [if_pos (rfl : (none : Option Nat) = none), if_pos (rfl : (none : Option Nat) = none), j]
      try rfl
    | some a =>
      show (if l4 ≤ l5 then _ else if hq_I l5 192 = true then if (some a : Option Nat) = none then _ else _ else none) = (if l4 ≤ l5 then _ else if hq_I l5 192 = true then if (some 0 : Option Nat) = none then _ else _ else none)
      rw [if_neg (Option.some_ne_none a), if_neg (Option.some_ne_none 0)]
      have e : (fun v64 : Int64 => sxw_lookAtAll_J70 dR (sxw_lookAtAll_L14 dC dR n) l4 l5 (sxv_contentOf (r l5.toNatClampNeg)) (sxv_truthOf v64) a1 a2 a3 a4 a5 a6 a7 r c (k + 1) row (some a)) = (fun v64 : Int64 => sxw_lookAtAll_J70 dR (sxw_lookAtAll_L14 dC dR n) l4 l5 (sxv_contentOf (r l5.toNatClampNeg)) (sxv_truthOf v64) a1 a2 a3 a4 a5 a6 a7 r c (k + 1) row' (some 0)) := by
        funext v64
        exact j _ _ _ _ _
      rw [e]
      try rfl
theorem hd_sel_can {dN : hd_Y} {dC dR : hd_X} {sD sR : Int32} {row nested : Option Nat} {sc sw : Int32} {cond : Option Nat} : hd_sel dN dC dR sD sR row nested sc sw cond = hd_sel dN dC dR sD sR (some 0) (nested.map fun _ => 0) sc sw (cond.map fun _ => 0) := by
  funext a1 a2 a3 a4 a5 a6 a7 a8 a9 a10 a11 a12 a13 a14
  show sxw_addSelect dN dC dR 0 a1 a2 a3 a4 a5 a6 a7 a8 a9 a10 a11 a12 a13 a14 sD sR row nested sc sw cond = sxw_addSelect dN dC dR 0 a1 a2 a3 a4 a5 a6 a7 a8 a9 a10 a11 a12 a13 a14 sD sR (some 0) (nested.map fun _ => 0) sc sw (cond.map fun _ => 0)
  have s : sxw_addSource dN 0 a1 a2 a3 a4 a5 a6 a7 a8 a9 a10 a11 a12 a13 a14 nested sc sw = sxw_addSource dN 0 a1 a2 a3 a4 a5 a6 a7 a8 a9 a10 a11 a12 a13 a14 (nested.map fun _ => 0) sc sw := by
    cases nested with
    | none => rfl
    | some a => first | rfl | simp [sxw_addSource]
  unfold sxw_addSelect
  rw [s]
  congr 1
  funext v10
  have lk : ∀ x r c k, sxw_lookAtAll dC dR x a2 a3 a4 a5 a7 a8 a9 r c k row cond = sxw_lookAtAll dC dR x a2 a3 a4 a5 a7 a8 a9 r c k (some 0) (cond.map fun _ => 0) := fun x r c k => by
    unfold sxw_lookAtAll
    exact sxw_look_can _ _ _ _ _ _ _ _ _ _ _ _ _
  have jj : ∀ (x y : Int32) (r : Nat → Int64) (c k : Int32), sxw_addSelect_J30 dN dC dR x y a1 a2 a3 a4 a5 a6 a7 a8 a9 a10 a11 r c k sD sR row nested sc sw cond = sxw_addSelect_J30 dN dC dR x y a1 a2 a3 a4 a5 a6 a7 a8 a9 a10 a11 r c k sD sR (some 0) (nested.map fun _ => 0) sc sw (cond.map fun _ => 0) := fun x y r c k => rfl
  rw [lk, jj]
  have e : (fun v25 : Int32 × (Nat → Int64) × Int32 × Int32 => sxw_addSelect_J30 dN dC dR a13 v25.1 a1 a2 a3 a4 a5 a6 a7 a8 a9 a10 a11 v25.2.1 v25.2.2.1 v25.2.2.2 sD sR row nested sc sw cond) = (fun v25 : Int32 × (Nat → Int64) × Int32 × Int32 => sxw_addSelect_J30 dN dC dR a13 v25.1 a1 a2 a3 a4 a5 a6 a7 a8 a9 a10 a11 v25.2.1 v25.2.2.1 v25.2.2.2 sD sR (some 0) (nested.map fun _ => 0) sc sw (cond.map fun _ => 0)) := by
    funext v25
    exact jj _ _ _ _ _
  rw [e]
