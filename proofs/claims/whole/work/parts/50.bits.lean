/-! ===== Int32 by its bits: bt x i ===== -/
def bt (x : Int32) (i : Nat) : Bool := x.toBitVec.getLsbD i
theorem b_ext {x y : Int32} (h : ∀ i, i < 32 → bt x i = bt y i) : x = y := Int32.toBitVec_inj.mp (BitVec.eq_of_getLsbD_eq (fun i hi => h i hi))
theorem b_or (x y : Int32) (i : Nat) : bt (x ||| y) i = (bt x i || bt y i) := by unfold bt; rw [Int32.toBitVec_or, BitVec.getLsbD_or]
theorem b_and (x y : Int32) (i : Nat) : bt (x &&& y) i = (bt x i && bt y i) := by unfold bt; rw [Int32.toBitVec_and, BitVec.getLsbD_and]
theorem b_xor (x y : Int32) (i : Nat) : bt (x ^^^ y) i = (bt x i ^^ bt y i) := by unfold bt; rw [Int32.toBitVec_xor, BitVec.getLsbD_xor]
theorem b_big {x : Int32} {i : Nat} (h : 32 ≤ i) : bt x i = false := BitVec.getLsbD_of_ge _ _ h
theorem b_255 (i : Nat) : bt 255 i = decide (i < 8) := by
  rcases Nat.lt_or_ge i 32 with h | h
  · exact (by decide +kernel : ∀ i, i < 32 → bt 255 i = decide (i < 8)) i h
  · rw [b_big h, decide_eq_false (by omega)]
theorem b_65535 (i : Nat) : bt 65535 i = decide (i < 16) := by
  rcases Nat.lt_or_ge i 32 with h | h
  · exact (by decide +kernel : ∀ i, i < 32 → bt 65535 i = decide (i < 16)) i h
  · rw [b_big h, decide_eq_false (by omega)]
theorem b_m1 : ∀ i, i < 32 → bt (-1) i = true := by decide +kernel
theorem b_0 (i : Nat) : bt 0 i = false := BitVec.getLsbD_zero
theorem s_l : ∀ n, n < 32 → ((nI n &&& 31).toBitVec.smod 32).toNat = n := by decide +kernel
theorem s_u : ∀ n, n < 32 → (((nI n).toUInt32 &&& Int32.toUInt32 31).toBitVec % 32).toNat = n := by decide +kernel
theorem b_shl (n : Nat) (hn : n < 32) (x : Int32) {i : Nat} (hi : i < 32) : bt (x <<< (nI n &&& 31)) i = (decide (n ≤ i) && bt x (i - n)) := by
  unfold bt
  rw [Int32.toBitVec_shiftLeft]
  show (x.toBitVec <<< ((nI n &&& 31).toBitVec.smod 32).toNat).getLsbD i = _
  rw [s_l n hn, BitVec.getLsbD_shiftLeft]
  rcases Nat.lt_or_ge i n with h | h
  · simp [h, Nat.not_le.mpr h]
  · simp [hi, h, Nat.not_lt.mpr h]
theorem b_ushr (n : Nat) (hn : n < 32) (x : Int32) (i : Nat) : bt ((x.toUInt32 >>> ((nI n).toUInt32 &&& Int32.toUInt32 31)).toInt32) i = bt x (n + i) := by
  show (x.toUInt32 >>> ((nI n).toUInt32 &&& Int32.toUInt32 31)).toBitVec.getLsbD i = x.toUInt32.toBitVec.getLsbD (n + i)
  rw [UInt32.toBitVec_shiftRight]
  show (x.toUInt32.toBitVec >>> (((nI n).toUInt32 &&& Int32.toUInt32 31).toBitVec % 32).toNat).getLsbD i = _
  rw [s_u n hn, BitVec.getLsbD_ushiftRight]
theorem b_sshr (n : Nat) (hn : n < 32) (x : Int32) {i : Nat} (hi : i < 32) : bt (x >>> (nI n &&& 31)) i = if n + i < 32 then bt x (n + i) else bt x 31 := by
  unfold bt
  rw [Int32.toBitVec_shiftRight]
  show (x.toBitVec.sshiftRight ((nI n &&& 31).toBitVec.smod 32).toNat).getLsbD i = _
  rw [s_l n hn, BitVec.getLsbD_sshiftRight, BitVec.msb_eq_getLsbD_last]
  simp [hi]
/-! hb_: masks of objects -/
theorem hb_1 : ∀ j, j < 32 → bt 1 j = decide (j = 0) := by decide +kernel
theorem hb_not (x : Int32) {i : Nat} (hi : i < 32) : bt (x ^^^ (-1)) i = !bt x i := by
  rw [b_xor, b_m1 i hi]; cases bt x i <;> rfl
theorem hb_one {k i : Nat} (hk : k < 32) (hi : i < 32) : bt ((1 : Int32) <<< (nI k &&& 31)) i = decide (i = k) := by
  rw [b_shl k hk 1 hi, hb_1 (i - k) (by omega)]
  by_cases h : i = k
  · subst h; simp
  · by_cases h2 : k ≤ i
    · have h3 : ¬ i - k = 0 := by omega
      simp [h, h3]
    · simp [h, h2]
theorem hb_and1 (x : Int32) : x &&& 1 = if bt x 0 = true then 1 else 0 := by
  apply b_ext
  intro i hi
  rw [b_and, hb_1 i hi]
  by_cases h : i = 0
  · subst h
    generalize bt x 0 = b
    cases b <;> decide
  · generalize bt x 0 = b
    cases b
    · rw [if_neg (by decide), b_0]; simp [h]
    · rw [if_pos rfl, hb_1 i hi]; simp [h]
theorem hb_t1 (m : Int32) {k : Nat} (hk : k < 32) : ((m >>> (nI k &&& 31)) &&& 1 = 1) ↔ bt m k = true := by
  rw [hb_and1, b_sshr k hk m (by decide : 0 < 32), if_pos (by omega : k + 0 < 32), Nat.add_zero]
  generalize bt m k = b
  cases b <;> decide
theorem hb_t0 (m : Int32) {k : Nat} (hk : k < 32) : ((m >>> (nI k &&& 31)) &&& 1 = 0) ↔ bt m k = false := by
  rw [hb_and1, b_sshr k hk m (by decide : 0 < 32), if_pos (by omega : k + 0 < 32), Nat.add_zero]
  generalize bt m k = b
  cases b <;> decide
theorem hb_a0 (m : Int32) {k : Nat} (hk : k < 32) : (m &&& ((1 : Int32) <<< (nI k &&& 31)) = 0) ↔ bt m k = false := by
  constructor
  · intro h
    have h2 : bt (m &&& ((1 : Int32) <<< (nI k &&& 31))) k = bt 0 k := by rw [h]
    rw [b_and, b_0, hb_one hk hk] at h2
    simpa using h2
  · intro h
    apply b_ext
    intro i hi
    rw [b_and, b_0, hb_one hk hi]
    by_cases e : i = k
    · subst e; rw [h]; rfl
    · simp [e]
theorem hb_least (f : Nat → Bool) : ∀ n, (∃ k, k < n ∧ f k = true) → ∃ k, k < n ∧ f k = true ∧ ∀ j, j < k → f j = false := by
  intro n
  induction n with
  | zero => rintro ⟨k, h, _⟩; omega
  | succ n ih =>
    rintro ⟨k, hk, hf⟩
    by_cases h : ∃ k, k < n ∧ f k = true
    · obtain ⟨j, hj, h1, h2⟩ := ih h
      exact ⟨j, by omega, h1, h2⟩
    · refine ⟨n, by omega, ?_, fun j hj => ?_⟩
      · by_cases e : k = n
        · subst e; exact hf
        · exact absurd ⟨k, by omega, hf⟩ h
      · cases hfj : f j with
        | false => rfl
        | true => exact absurd ⟨j, hj, hfj⟩ h
theorem hb_nz {m : Int32} (h : ¬ m = 0) : ∃ k, k < 32 ∧ bt m k = true := by
  by_cases h2 : ∃ k, k < 32 ∧ bt m k = true
  · exact h2
  · refine absurd (b_ext fun i hi => ?_) h
    rw [b_0]
    cases hb : bt m i with
    | false => rfl
    | true => exact absurd ⟨i, hi, hb⟩ h2
theorem hb_pred {m : Int32} {k : Nat} (hk : k < 32) (h1 : bt m k = true) (h0 : ∀ j, j < k → bt m j = false) : (m ^^^ (-1)) &&& (m - 1) = nI (2 ^ k - 1) := by
  have hlt : m.toBitVec.toNat < 2 ^ 32 := m.toBitVec.isLt
  have hP : 0 < 2 ^ k := Nat.two_pow_pos k
  have hP2 : 2 ^ k < 2 ^ 32 := Nat.pow_lt_pow_right (by decide) hk
  have hs : (m - 1).toBitVec.toNat = (2 ^ 32 - 1 + m.toBitVec.toNat) % 2 ^ 32 := by
    rw [Int32.toBitVec_sub, BitVec.toNat_sub]; rfl
  have e1 : ∀ i, bt m i = m.toBitVec.toNat.testBit i := fun i => rfl
  have e2 : ∀ i, bt (m - 1) i = (m - 1).toBitVec.toNat.testBit i := fun i => rfl
  generalize m.toBitVec.toNat = N at hlt hs e1
  have hm : N % 2 ^ k = 0 := by
    apply Nat.eq_of_testBit_eq
    intro i
    rw [Nat.testBit_mod_two_pow, Nat.zero_testBit]
    by_cases hi : i < k
    · rw [← e1, h0 i hi]; simp
    · simp [hi]
  have ho : N / 2 ^ k % 2 = 1 := by
    have h3 : (N / 2 ^ k).testBit 0 = true := by
      rw [Nat.testBit_div_two_pow, Nat.zero_add, ← e1]; exact h1
    rw [Nat.testBit_zero] at h3
    exact of_decide_eq_true h3
  obtain ⟨q, hq⟩ : ∃ q, N / 2 ^ k = 2 * q + 1 := ⟨N / 2 ^ k / 2, by omega⟩
  have hN : N = 2 ^ k * (2 * q + 1) := by
    have := Nat.div_add_mod N (2 ^ k)
    rw [hm, hq] at this
    omega
  have hN1 : 2 ^ k * (2 * q + 1) = 2 ^ k * (2 * q) + 2 ^ k := by rw [Nat.mul_add, Nat.mul_one]
  have hs2 : (m - 1).toBitVec.toNat = 2 ^ k * (2 * q) + (2 ^ k - 1) := by
    rw [hs]; omega
  apply b_ext
  intro i hi
  rw [b_and, hb_not m hi, e2, hs2, Nat.testBit_two_pow_mul_add _ (by omega), e1]
  have e3 : bt (nI (2 ^ k - 1)) i = (2 ^ k - 1).testBit i := by
    show (nI (2 ^ k - 1)).toBitVec.toNat.testBit i = _
    rw [pk_tn (by omega)]
  rw [e3, Nat.testBit_two_pow_sub_one]
  have hN2 : N = 2 ^ k * (2 * q + 1) + 0 := by omega
  by_cases h : i < k
  · rw [if_pos h, ← e1, h0 i h]; simp [h]
  · rw [if_neg h, hN2, Nat.testBit_two_pow_mul_add _ hP, if_neg h]
    have hf : decide (i < k) = false := by simp [h]
    rw [hf]
    cases hj : i - k with
    | zero => simp
    | succ j =>
      rw [Nat.testBit_succ, Nat.testBit_succ, show (2 * q + 1) / 2 = q by omega, show 2 * q / 2 = q by omega]
      cases q.testBit j <;> rfl
theorem hb_ntz32 : ∀ k, k < 32 → (if 0 < nI (2 ^ k - 1) then
    if nI (2 ^ k - 1) ≤ 65536 then
      sjn_numberOfTrailingZeros_J34 (nI (2 ^ k - 1)) 1
    else
      sjn_numberOfTrailingZeros_J34 (((nI (2 ^ k - 1)).toUInt32 >>> ((16 : Int32).toUInt32 &&& Int32.toUInt32 31)).toInt32) (1 + 16)
  else
    nI (2 ^ k - 1) &&& 32) = nI k := by decide +kernel
theorem hb_ntz {m : Int32} (h : ¬ m = 0) : ∃ k, k < 32 ∧ sjn_numberOfTrailingZeros m = nI k ∧ bt m k = true := by
  obtain ⟨k, hk, h1, h0⟩ := hb_least (bt m) 32 (hb_nz h)
  refine ⟨k, hk, ?_, h1⟩
  unfold sjn_numberOfTrailingZeros
  rw [hb_pred hk h1 h0]
  exact hb_ntz32 k hk
/-- how many of the first n -/
def hb_cnt (f : Nat → Bool) : Nat → Nat
  | 0 => 0
  | n + 1 => hb_cnt f n + (f n).toNat
theorem hb_cnt_le (f : Nat → Bool) : ∀ n, hb_cnt f n ≤ n := by
  intro n
  induction n with
  | zero => exact Nat.le_refl _
  | succ n ih =>
    have : (f n).toNat ≤ 1 := by cases f n <;> decide
    show hb_cnt f n + (f n).toNat ≤ n + 1
    omega
theorem hb_cnt_mono {f g : Nat → Bool} : ∀ n, (∀ i, i < n → f i = true → g i = true) → hb_cnt f n ≤ hb_cnt g n := by
  intro n
  induction n with
  | zero => intro _; exact Nat.le_refl _
  | succ n ih =>
    intro h
    have h1 := ih (fun i hi => h i (by omega))
    have h2 : (f n).toNat ≤ (g n).toNat := by
      have := h n (by omega)
      cases hf : f n with
      | false => exact Nat.zero_le _
      | true => rw [this hf]; exact Nat.le_refl _
    show hb_cnt f n + (f n).toNat ≤ hb_cnt g n + (g n).toNat
    omega
theorem hb_cnt_lt {f g : Nat → Bool} {k : Nat} (hf : f k = false) (hg : g k = true) : ∀ n, k < n → (∀ i, i < n → f i = true → g i = true) → hb_cnt f n < hb_cnt g n := by
  intro n
  induction n with
  | zero => intro h; omega
  | succ n ih =>
    intro hk h
    show hb_cnt f n + (f n).toNat < hb_cnt g n + (g n).toNat
    by_cases e : k = n
    · subst e
      have h1 := hb_cnt_mono (f := f) (g := g) k (fun i hi => h i (by omega))
      rw [hf, hg]
      show hb_cnt f k + 0 < hb_cnt g k + 1
      omega
    · have h1 := ih (by omega) (fun i hi => h i (by omega))
      have h2 : (f n).toNat ≤ (g n).toNat := by
        have := h n (by omega)
        cases hf : f n with
        | false => exact Nat.zero_le _
        | true => rw [this hf]; exact Nat.le_refl _
      omega
theorem hb_I {k n : Nat} (h : k < n) (hn : n < 2 ^ 31) : hq_I (nI k) n = true := by
  unfold hq_I
  rw [nI_toInt (by omega)]
  exact decide_eq_true ⟨by omega, by omega⟩
