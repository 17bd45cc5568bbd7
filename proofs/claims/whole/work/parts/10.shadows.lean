def kF : Nat := 100000
def hq_I (i : Int32) (n : Nat) : Bool := decide (0 ≤ i.toInt ∧ i.toInt < n)
def sxh_hasClass (l1 : Int32) (hf_classCount : Int32) : Int32 :=
  if l1 < 0 then
    0
  else
    if hf_classCount ≤ l1 then
      0
    else
      1
def sxh_makeClass_J24 (l1 : Int32) (ha_parents : Nat → Int32) (hf_classCount : Int32) : Option (Int32 × (Nat → Int32) × Int32) :=
  if hq_I hf_classCount 8 = true then
    some (((hf_classCount + 1) - 1, upd ha_parents hf_classCount.toNatClampNeg l1, hf_classCount + 1))
  else none
def sxh_makeClass (l1 : Int32) (ha_parents : Nat → Int32) (hf_classCount : Int32) : Option (Int32 × (Nat → Int32) × Int32) :=
  if 8 ≤ hf_classCount then
    some (((-1), ha_parents, hf_classCount))
  else
    if l1 = (-1) then
      sxh_makeClass_J24 l1 ha_parents hf_classCount
    else
      if (sxh_hasClass l1 hf_classCount) = 0 then
        some (((-1), ha_parents, hf_classCount))
      else
        sxh_makeClass_J24 l1 ha_parents hf_classCount
def sxq_addClass (l1 : Int32) (ha_parents : Nat → Int32) (hf_classCount : Int32) : Option (Int32 × (Nat → Int32) × Int32) :=
  (sxh_makeClass l1 ha_parents hf_classCount).bind fun v5 =>
    some (v5.1, v5.2.1, v5.2.2)
def sxh_makeObject (l1 : Int32) (l2 : Int32) (hf_classCount : Int32) (ha_classes : Nat → Int32) (ha_sizes : Nat → Int32) (hf_objectCount : Int32) (hf_changed : Int32) : Option (Int32 × (Nat → Int32) × (Nat → Int32) × Int32 × Int32) :=
  if 24 ≤ hf_objectCount then
    some (((-1), ha_classes, ha_sizes, hf_objectCount, hf_changed))
  else
    if (sxh_hasClass l1 hf_classCount) = 0 then
      some (((-1), ha_classes, ha_sizes, hf_objectCount, hf_changed))
    else
      if l2 < 1 then
        some (((-1), ha_classes, ha_sizes, hf_objectCount, hf_changed))
      else
        if l2 ≤ 1000 then
          if hq_I hf_objectCount 24 = true then
            if hq_I hf_objectCount 24 = true then
              some (((hf_objectCount + 1) - 1, upd ha_classes hf_objectCount.toNatClampNeg l1, upd ha_sizes hf_objectCount.toNatClampNeg l2, hf_objectCount + 1, 1))
            else none
          else none
        else
          some (((-1), ha_classes, ha_sizes, hf_objectCount, hf_changed))
def sxq_addObject (l1 : Int32) (l2 : Int32) (hf_classCount : Int32) (ha_classes : Nat → Int32) (ha_sizes : Nat → Int32) (hf_objectCount : Int32) (hf_changed : Int32) : Option (Int32 × (Nat → Int32) × (Nat → Int32) × Int32 × Int32) :=
  (sxh_makeObject l1 l2 hf_classCount ha_classes ha_sizes hf_objectCount hf_changed).bind fun v6 =>
    some (v6.1, v6.2.1, v6.2.2.1, v6.2.2.2.1, v6.2.2.2.2)
def sxh_hasObject (l1 : Int32) (hf_objectCount : Int32) : Int32 :=
  if l1 < 0 then
    0
  else
    if hf_objectCount ≤ l1 then
      0
    else
      1
def sxh_putField (l1 : Int32) (l2 : Int32) (l3 : Int64) (ha_fields : Nat → Int64) (hf_changed : Int32) : Option ((Nat → Int64) × Int32) :=
  if hq_I ((l1 * 4) + l2) 96 = true then
    some ((vp_updL ha_fields ((l1 * 4) + l2).toNatClampNeg l3, 1))
  else none
def sxv_number (l0 : Int32) : Int64 :=
  4294967296 ||| (l0.toInt64 &&& 4294967295)
def sxv_link (l0 : Int32) : Int64 :=
  8589934592 ||| (l0.toInt64 &&& 4294967295)
def sxq_set (l1 : Int32) (l2 : Int32) (l3 : Int32) (l4 : Int32) (ha_fields : Nat → Int64) (hf_objectCount : Int32) (hf_changed : Int32) : Option (Int32 × (Nat → Int64) × Int32) :=
  if (sxh_hasObject l1 hf_objectCount) = 0 then
    some (0, ha_fields, hf_changed)
  else
    if l2 < 0 then
      some (0, ha_fields, hf_changed)
    else
      if l2 < 4 then
        if l3 = 0 then
          (sxh_putField l1 l2 0 ha_fields hf_changed).bind fun v55 =>
            some (1, v55.1, v55.2)
        else
          if l3 = 1 then
            (sxh_putField l1 l2 (sxv_number l4) ha_fields hf_changed).bind fun v71 =>
              some (1, v71.1, v71.2)
          else
            if l3 = 2 then
              if (sxh_hasObject l4 hf_objectCount) = 0 then
                some (0, ha_fields, hf_changed)
              else
                (sxh_putField l1 l2 (sxv_link l4) ha_fields hf_changed).bind fun v101 =>
                  some (1, v101.1, v101.2)
            else
              some (0, ha_fields, hf_changed)
      else
        some (0, ha_fields, hf_changed)
def sxh_markRoot (l1 : Int32) (l2 : Int32) (hf_roots : Int32) (hf_changed : Int32) : Int32 × Int32 :=
  if l2 = 0 then
    (hf_roots &&& (((1 : Int32) <<< (l1 &&& 31)) ^^^ (-1)), 1)
  else
    (hf_roots ||| ((1 : Int32) <<< (l1 &&& 31)), 1)
def sxq_setRoot (l1 : Int32) (l2 : Int32) (hf_objectCount : Int32) (hf_roots : Int32) (hf_changed : Int32) : Int32 × Int32 × Int32 :=
  if (sxh_hasObject l1 hf_objectCount) = 0 then
    (0, hf_roots, hf_changed)
  else
    (1, (sxh_markRoot l1 l2 hf_roots hf_changed).1, (sxh_markRoot l1 l2 hf_roots hf_changed).2)
def sxh_size (hf_objectCount : Int32) : Int32 :=
  hf_objectCount
def sxh_roots (hf_roots : Int32) : Int32 :=
  hf_roots
def sxh_fieldOf (l1 : Int32) (l2 : Int32) (ha_fields : Nat → Int64) : Option (Int64) :=
  if hq_I ((l1 * 4) + l2) 96 = true then
    some (ha_fields ((l1 * 4) + l2).toNatClampNeg)
  else none
def sxv_isLink (l0 : Int64) : Int32 :=
  if (lg_cmp ((l0.toUInt64 >>> ((32 : Int32).toInt64.toUInt64 &&& Int64.toUInt64 63)).toInt64) 2) = 0 then
    1
  else
    0
def sxv_contentOf (l0 : Int64) : Int32 :=
  l0.toInt32
def sxs_findLinks_L42_B (rec : Int32 → Int32 → (Nat → Int64) → (Nat → Int32) → (Nat → Int32) → Option ((Nat → Int32) × (Nat → Int32))) (l2 : Int32) (l3 : Int32) (ha_fields : Nat → Int64) (sa_linkedFrom : Nat → Int32) (sa_linkCounts : Nat → Int32) : Option ((Nat → Int32) × (Nat → Int32)) :=
  if 4 ≤ l3 then
    some (sa_linkedFrom, sa_linkCounts)
  else
    (sxh_fieldOf l2 l3 ha_fields).bind fun v50 =>
      if (sxv_isLink v50) = 0 then
        rec l2 (l3 + 1) ha_fields sa_linkedFrom sa_linkCounts
      else
        if hq_I l2 24 = true then
          if hq_I l2 24 = true then
            if hq_I (sxv_contentOf v50) 24 = true then
              if hq_I (sxv_contentOf v50) 24 = true then
                rec l2 (l3 + 1) ha_fields (upd sa_linkedFrom l2.toNatClampNeg ((sa_linkedFrom l2.toNatClampNeg) ||| ((1 : Int32) <<< ((sxv_contentOf v50) &&& 31)))) (upd sa_linkCounts (sxv_contentOf v50).toNatClampNeg ((sa_linkCounts (sxv_contentOf v50).toNatClampNeg) + 1))
              else none
            else none
          else none
        else none
def sxs_findLinks_L42 : Nat → Int32 → Int32 → (Nat → Int64) → (Nat → Int32) → (Nat → Int32) → Option ((Nat → Int32) × (Nat → Int32))
  | 0 => fun _ _ _ _ _ => none
  | n + 1 => sxs_findLinks_L42_B (sxs_findLinks_L42 n)
def sxs_findLinks_L32_B (rec : Int32 → (Nat → Int64) → (Nat → Int32) → (Nat → Int32) → Int32 → Option ((Nat → Int32) × (Nat → Int32))) (l2 : Int32) (ha_fields : Nat → Int64) (sa_linkedFrom : Nat → Int32) (sa_linkCounts : Nat → Int32) (sf_objectCount : Int32) : Option ((Nat → Int32) × (Nat → Int32)) :=
  if sf_objectCount ≤ l2 then
    some (sa_linkedFrom, sa_linkCounts)
  else
    (sxs_findLinks_L42 kF l2 0 ha_fields sa_linkedFrom sa_linkCounts).bind fun u42 =>
      rec (l2 + 1) ha_fields u42.1 u42.2 sf_objectCount
def sxs_findLinks_L32 : Nat → Int32 → (Nat → Int64) → (Nat → Int32) → (Nat → Int32) → Int32 → Option ((Nat → Int32) × (Nat → Int32))
  | 0 => fun _ _ _ _ _ => none
  | n + 1 => sxs_findLinks_L32_B (sxs_findLinks_L32 n)
def sxs_findLinks_L2_B (rec : Int32 → (Nat → Int32) → (Nat → Int32) → Int32 → Option ((Nat → Int32) × (Nat → Int32))) (l2 : Int32) (sa_linkedFrom : Nat → Int32) (sa_linkCounts : Nat → Int32) (sf_objectCount : Int32) : Option ((Nat → Int32) × (Nat → Int32)) :=
  if sf_objectCount ≤ l2 then
    some (sa_linkedFrom, sa_linkCounts)
  else
    if hq_I l2 24 = true then
      if hq_I l2 24 = true then
        rec (l2 + 1) (upd sa_linkedFrom l2.toNatClampNeg 0) (upd sa_linkCounts l2.toNatClampNeg 0) sf_objectCount
      else none
    else none
def sxs_findLinks_L2 : Nat → Int32 → (Nat → Int32) → (Nat → Int32) → Int32 → Option ((Nat → Int32) × (Nat → Int32))
  | 0 => fun _ _ _ _ => none
  | n + 1 => sxs_findLinks_L2_B (sxs_findLinks_L2 n)
def sxs_findLinks (ha_fields : Nat → Int64) (sa_linkedFrom : Nat → Int32) (sa_linkCounts : Nat → Int32) (sf_objectCount : Int32) : Option ((Nat → Int32) × (Nat → Int32)) :=
  (sxs_findLinks_L2 kF 0 sa_linkedFrom sa_linkCounts sf_objectCount).bind fun u2 =>
    (sxs_findLinks_L32 kF 0 ha_fields u2.1 u2.2 sf_objectCount).bind fun u32 =>
      some (u32.1, u32.2)
def sjn_numberOfTrailingZeros_J74 (l0 : Int32) (l1 : Int32) : Int32 :=
  l1 + ((l0.toUInt32 >>> ((1 : Int32).toUInt32 &&& Int32.toUInt32 31)).toInt32)
def sjn_numberOfTrailingZeros_J62 (l0 : Int32) (l1 : Int32) : Int32 :=
  if l0 ≤ 4 then
    sjn_numberOfTrailingZeros_J74 l0 l1
  else
    sjn_numberOfTrailingZeros_J74 ((l0.toUInt32 >>> ((2 : Int32).toUInt32 &&& Int32.toUInt32 31)).toInt32) (l1 + 2)
def sjn_numberOfTrailingZeros_J49 (l0 : Int32) (l1 : Int32) : Int32 :=
  if l0 ≤ 16 then
    sjn_numberOfTrailingZeros_J62 l0 l1
  else
    sjn_numberOfTrailingZeros_J62 ((l0.toUInt32 >>> ((4 : Int32).toUInt32 &&& Int32.toUInt32 31)).toInt32) (l1 + 4)
def sjn_numberOfTrailingZeros_J34 (l0 : Int32) (l1 : Int32) : Int32 :=
  if l0 ≤ 256 then
    sjn_numberOfTrailingZeros_J49 l0 l1
  else
    sjn_numberOfTrailingZeros_J49 ((l0.toUInt32 >>> ((8 : Int32).toUInt32 &&& Int32.toUInt32 31)).toInt32) (l1 + 8)
def sjn_numberOfTrailingZeros (l0 : Int32) : Int32 :=
  if 0 < ((l0 ^^^ (-1)) &&& (l0 - 1)) then
    if ((l0 ^^^ (-1)) &&& (l0 - 1)) ≤ 65536 then
      sjn_numberOfTrailingZeros_J34 ((l0 ^^^ (-1)) &&& (l0 - 1)) 1
    else
      sjn_numberOfTrailingZeros_J34 ((((l0 ^^^ (-1)) &&& (l0 - 1)).toUInt32 >>> ((16 : Int32).toUInt32 &&& Int32.toUInt32 31)).toInt32) (1 + 16)
  else
    ((l0 ^^^ (-1)) &&& (l0 - 1)) &&& 32
def sxs_reachableWithout_L14_B (rec : Int32 → Int32 → Int32 → Int32 → (Nat → Int32) → Option (Int32)) (l1 : Int32) (l2 : Int32) (l3 : Int32) (l4 : Int32) (sa_linkedFrom : Nat → Int32) : Option (Int32) :=
  if 24 ≤ l4 then
    some l2
  else
    if l3 = 0 then
      some l2
    else
      if hq_I (sjn_numberOfTrailingZeros l3) 24 = true then
        rec l1 (l2 ||| (((sa_linkedFrom (sjn_numberOfTrailingZeros l3).toNatClampNeg) &&& (l1 ^^^ (-1))) &&& (l2 ^^^ (-1)))) ((l3 &&& (((1 : Int32) <<< ((sjn_numberOfTrailingZeros l3) &&& 31)) ^^^ (-1))) ||| (((sa_linkedFrom (sjn_numberOfTrailingZeros l3).toNatClampNeg) &&& (l1 ^^^ (-1))) &&& (l2 ^^^ (-1)))) (l4 + 1) sa_linkedFrom
      else none
def sxs_reachableWithout_L14 : Nat → Int32 → Int32 → Int32 → Int32 → (Nat → Int32) → Option (Int32)
  | 0 => fun _ _ _ _ _ => none
  | n + 1 => sxs_reachableWithout_L14_B (sxs_reachableWithout_L14 n)
def sxs_reachableWithout (l1 : Int32) (sa_linkedFrom : Nat → Int32) (sf_roots : Int32) : Option (Int32) :=
  (sxs_reachableWithout_L14 kF l1 (sf_roots &&& (l1 ^^^ (-1))) (sf_roots &&& (l1 ^^^ (-1))) 0 sa_linkedFrom).bind fun u14 =>
    some u14
def sxs_retainedBy (l1 : Int32) (sa_linkedFrom : Nat → Int32) (sf_roots : Int32) (sf_reachable : Int32) : Option (Int32) :=
  (sxs_reachableWithout l1 sa_linkedFrom sf_roots).bind fun v6 =>
    some (sf_reachable &&& (v6 ^^^ (-1)))
def sxh_sizeOf (l1 : Int32) (ha_sizes : Nat → Int32) : Option (Int32) :=
  if hq_I l1 24 = true then
    some (ha_sizes l1.toNatClampNeg)
  else none
def sxs_sizeOfSet_L5_B (rec : Int32 → Int32 → Int32 → (Nat → Int32) → Int32 → Option (Int32)) (l2 : Int32) (l3 : Int32) (l4 : Int32) (ha_sizes : Nat → Int32) (sf_objectCount : Int32) : Option (Int32) :=
  if sf_objectCount ≤ l4 then
    some l3
  else
    if (l2 &&& ((1 : Int32) <<< (l4 &&& 31))) = 0 then
      rec l2 l3 (l4 + 1) ha_sizes sf_objectCount
    else
      (sxh_sizeOf l4 ha_sizes).bind fun v27 =>
        rec l2 (l3 + v27) (l4 + 1) ha_sizes sf_objectCount
def sxs_sizeOfSet_L5 : Nat → Int32 → Int32 → Int32 → (Nat → Int32) → Int32 → Option (Int32)
  | 0 => fun _ _ _ _ _ => none
  | n + 1 => sxs_sizeOfSet_L5_B (sxs_sizeOfSet_L5 n)
def sxs_sizeOfSet (l2 : Int32) (ha_sizes : Nat → Int32) (sf_objectCount : Int32) : Option (Int32) :=
  (sxs_sizeOfSet_L5 kF l2 0 0 ha_sizes sf_objectCount).bind fun u5 =>
    some u5
def sxs_findDominators_L4_B (rec : Int32 → Int32 → Int32 → (Nat → Int32) → Int32 → Option (Int32)) (l1 : Int32) (l2 : Int32) (l3 : Int32) (sa_retainedSets : Nat → Int32) (sf_objectCount : Int32) : Option (Int32) :=
  if sf_objectCount ≤ l3 then
    some l2
  else
    if l3 = l1 then
      rec l1 l2 (l3 + 1) sa_retainedSets sf_objectCount
    else
      if hq_I l3 24 = true then
        if ((sa_retainedSets l3.toNatClampNeg) &&& ((1 : Int32) <<< (l1 &&& 31))) = 0 then
          rec l1 l2 (l3 + 1) sa_retainedSets sf_objectCount
        else
          rec l1 (l2 ||| ((1 : Int32) <<< (l3 &&& 31))) (l3 + 1) sa_retainedSets sf_objectCount
      else none
def sxs_findDominators_L4 : Nat → Int32 → Int32 → Int32 → (Nat → Int32) → Int32 → Option (Int32)
  | 0 => fun _ _ _ _ _ => none
  | n + 1 => sxs_findDominators_L4_B (sxs_findDominators_L4 n)
def sxs_findDominators (l1 : Int32) (sa_retainedSets : Nat → Int32) (sf_objectCount : Int32) : Option (Int32) :=
  (sxs_findDominators_L4 kF l1 0 0 sa_retainedSets sf_objectCount).bind fun u4 =>
    some u4
def sxs_findImmediateDominator_L9_B (rec : Int32 → Int32 → (Nat → Int32) → Int32 → Option (Int32)) (l2 : Int32) (l3 : Int32) (sa_dominators : Nat → Int32) (sf_objectCount : Int32) : Option (Int32) :=
  if sf_objectCount ≤ l3 then
    some (-1)
  else
    if (l2 &&& (((1 : Int32) <<< (l3 &&& 31)) ^^^ (-1))) = l2 then
      rec l2 (l3 + 1) sa_dominators sf_objectCount
    else
      if hq_I l3 24 = true then
        if ((l2 &&& (((1 : Int32) <<< (l3 &&& 31)) ^^^ (-1))) &&& ((sa_dominators l3.toNatClampNeg) ^^^ (-1))) = 0 then
          some l3
        else
          rec l2 (l3 + 1) sa_dominators sf_objectCount
      else none
def sxs_findImmediateDominator_L9 : Nat → Int32 → Int32 → (Nat → Int32) → Int32 → Option (Int32)
  | 0 => fun _ _ _ _ => none
  | n + 1 => sxs_findImmediateDominator_L9_B (sxs_findImmediateDominator_L9 n)
def sxs_findImmediateDominator (l1 : Int32) (sa_dominators : Nat → Int32) (sf_objectCount : Int32) : Option (Int32) :=
  if hq_I l1 24 = true then
    sxs_findImmediateDominator_L9 kF (sa_dominators l1.toNatClampNeg) 0 sa_dominators sf_objectCount
  else none
def sxs_takeOf_L105_B (rec : Int32 → (Nat → Int32) → (Nat → Int32) → Int32 → Option (Nat → Int32)) (l2 : Int32) (sa_dominators : Nat → Int32) (sa_immediateDominators : Nat → Int32) (sf_objectCount : Int32) : Option (Nat → Int32) :=
  if sf_objectCount ≤ l2 then
    some sa_immediateDominators
  else
    (sxs_findImmediateDominator l2 sa_dominators sf_objectCount).bind fun v120 =>
      if hq_I l2 24 = true then
        rec (l2 + 1) sa_dominators (upd sa_immediateDominators l2.toNatClampNeg v120) sf_objectCount
      else none
def sxs_takeOf_L105 : Nat → Int32 → (Nat → Int32) → (Nat → Int32) → Int32 → Option (Nat → Int32)
  | 0 => fun _ _ _ _ => none
  | n + 1 => sxs_takeOf_L105_B (sxs_takeOf_L105 n)
def sxs_takeOf_L78_B (rec : Int32 → (Nat → Int32) → (Nat → Int32) → Int32 → Option (Nat → Int32)) (l2 : Int32) (sa_retainedSets : Nat → Int32) (sa_dominators : Nat → Int32) (sf_objectCount : Int32) : Option (Nat → Int32) :=
  if sf_objectCount ≤ l2 then
    some sa_dominators
  else
    (sxs_findDominators l2 sa_retainedSets sf_objectCount).bind fun v93 =>
      if hq_I l2 24 = true then
        rec (l2 + 1) sa_retainedSets (upd sa_dominators l2.toNatClampNeg v93) sf_objectCount
      else none
def sxs_takeOf_L78 : Nat → Int32 → (Nat → Int32) → (Nat → Int32) → Int32 → Option (Nat → Int32)
  | 0 => fun _ _ _ _ => none
  | n + 1 => sxs_takeOf_L78_B (sxs_takeOf_L78 n)
def sxs_takeOf_L32_B (rec : Int32 → (Nat → Int32) → (Nat → Int32) → (Nat → Int32) → (Nat → Int32) → Int32 → Int32 → Int32 → Option ((Nat → Int32) × (Nat → Int32))) (l2 : Int32) (ha_sizes : Nat → Int32) (sa_linkedFrom : Nat → Int32) (sa_retainedSets : Nat → Int32) (sa_retainedSizes : Nat → Int32) (sf_objectCount : Int32) (sf_roots : Int32) (sf_reachable : Int32) : Option ((Nat → Int32) × (Nat → Int32)) :=
  if sf_objectCount ≤ l2 then
    some (sa_retainedSets, sa_retainedSizes)
  else
    (sxs_retainedBy ((1 : Int32) <<< (l2 &&& 31)) sa_linkedFrom sf_roots sf_reachable).bind fun v49 =>
      if hq_I l2 24 = true then
        if hq_I l2 24 = true then
          (sxs_sizeOfSet ((upd sa_retainedSets l2.toNatClampNeg v49) l2.toNatClampNeg) ha_sizes sf_objectCount).bind fun v66 =>
            if hq_I l2 24 = true then
              rec (l2 + 1) ha_sizes sa_linkedFrom (upd sa_retainedSets l2.toNatClampNeg v49) (upd sa_retainedSizes l2.toNatClampNeg v66) sf_objectCount sf_roots sf_reachable
            else none
        else none
      else none
def sxs_takeOf_L32 : Nat → Int32 → (Nat → Int32) → (Nat → Int32) → (Nat → Int32) → (Nat → Int32) → Int32 → Int32 → Int32 → Option ((Nat → Int32) × (Nat → Int32))
  | 0 => fun _ _ _ _ _ _ _ _ => none
  | n + 1 => sxs_takeOf_L32_B (sxs_takeOf_L32 n)
def sxs_takeOf (ha_sizes : Nat → Int32) (ha_fields : Nat → Int64) (hf_objectCount : Int32) (hf_roots : Int32) (sa_linkedFrom : Nat → Int32) (sa_linkCounts : Nat → Int32) (sa_retainedSets : Nat → Int32) (sa_retainedSizes : Nat → Int32) (sa_dominators : Nat → Int32) (sa_immediateDominators : Nat → Int32) (sf_objectCount : Int32) (sf_roots : Int32) (sf_reachable : Int32) : Option ((Nat → Int32) × (Nat → Int32) × (Nat → Int32) × (Nat → Int32) × (Nat → Int32) × (Nat → Int32) × Int32 × Int32 × Int32) :=
  (sxs_findLinks ha_fields sa_linkedFrom sa_linkCounts (sxh_size hf_objectCount)).bind fun v18 =>
    (sxs_reachableWithout 0 v18.1 (sxh_roots hf_roots)).bind fun v24 =>
      (sxs_takeOf_L32 kF 0 ha_sizes v18.1 sa_retainedSets sa_retainedSizes (sxh_size hf_objectCount) (sxh_roots hf_roots) v24).bind fun u32 =>
        (sxs_takeOf_L78 kF 0 u32.1 sa_dominators (sxh_size hf_objectCount)).bind fun u78 =>
          (sxs_takeOf_L105 kF 0 u78 sa_immediateDominators (sxh_size hf_objectCount)).bind fun u105 =>
            some ((v18.1, v18.2, u32.1, u32.2, u78, u105, (sxh_size hf_objectCount), (sxh_roots hf_roots), v24))
def sxh_refreshSurvey (ha_sizes : Nat → Int32) (ha_fields : Nat → Int64) (hf_objectCount : Int32) (hf_roots : Int32) (hf_changed : Int32) (sa_linkedFrom : Nat → Int32) (sa_linkCounts : Nat → Int32) (sa_retainedSets : Nat → Int32) (sa_retainedSizes : Nat → Int32) (sa_dominators : Nat → Int32) (sa_immediateDominators : Nat → Int32) (sf_objectCount : Int32) (sf_roots : Int32) (sf_reachable : Int32) : Option (Int32 × (Nat → Int32) × (Nat → Int32) × (Nat → Int32) × (Nat → Int32) × (Nat → Int32) × (Nat → Int32) × Int32 × Int32 × Int32) :=
  if hf_changed = 0 then
    some (hf_changed, sa_linkedFrom, sa_linkCounts, sa_retainedSets, sa_retainedSizes, sa_dominators, sa_immediateDominators, sf_objectCount, sf_roots, sf_reachable)
  else
    (sxs_takeOf ha_sizes ha_fields hf_objectCount hf_roots sa_linkedFrom sa_linkCounts sa_retainedSets sa_retainedSizes sa_dominators sa_immediateDominators sf_objectCount sf_roots sf_reachable).bind fun v12 =>
      some (0, v12.1, v12.2.1, v12.2.2.1, v12.2.2.2.1, v12.2.2.2.2.1, v12.2.2.2.2.2.1, v12.2.2.2.2.2.2.1, v12.2.2.2.2.2.2.2.1, v12.2.2.2.2.2.2.2.2)
def sxs_immediateDominatorOf (l1 : Int32) (sa_immediateDominators : Nat → Int32) : Option (Int32) :=
  if hq_I l1 24 = true then
    some (sa_immediateDominators l1.toNatClampNeg)
  else none
def sxq_dominator (l1 : Int32) (ha_sizes : Nat → Int32) (ha_fields : Nat → Int64) (hf_objectCount : Int32) (hf_roots : Int32) (hf_changed : Int32) (sa_linkedFrom : Nat → Int32) (sa_linkCounts : Nat → Int32) (sa_retainedSets : Nat → Int32) (sa_retainedSizes : Nat → Int32) (sa_dominators : Nat → Int32) (sa_immediateDominators : Nat → Int32) (sf_objectCount : Int32) (sf_roots : Int32) (sf_reachable : Int32) : Option (Int32 × Int32 × (Nat → Int32) × (Nat → Int32) × (Nat → Int32) × (Nat → Int32) × (Nat → Int32) × (Nat → Int32) × Int32 × Int32 × Int32) :=
  if (sxh_hasObject l1 hf_objectCount) = 0 then
    some (((-2), hf_changed, sa_linkedFrom, sa_linkCounts, sa_retainedSets, sa_retainedSizes, sa_dominators, sa_immediateDominators, sf_objectCount, sf_roots, sf_reachable))
  else
    (sxh_refreshSurvey ha_sizes ha_fields hf_objectCount hf_roots hf_changed sa_linkedFrom sa_linkCounts sa_retainedSets sa_retainedSizes sa_dominators sa_immediateDominators sf_objectCount sf_roots sf_reachable).bind fun v18 =>
      (sxs_immediateDominatorOf l1 v18.2.2.2.2.2.2.1).bind fun v29 =>
        some (v29, v18.1, v18.2.1, v18.2.2.1, v18.2.2.2.1, v18.2.2.2.2.1, v18.2.2.2.2.2.1, v18.2.2.2.2.2.2.1, v18.2.2.2.2.2.2.2.1, v18.2.2.2.2.2.2.2.2.1, v18.2.2.2.2.2.2.2.2.2)
def sxs_retainedSizeOf (l1 : Int32) (sa_retainedSizes : Nat → Int32) : Option (Int32) :=
  if hq_I l1 24 = true then
    some (sa_retainedSizes l1.toNatClampNeg)
  else none
def sxq_retained (l1 : Int32) (ha_sizes : Nat → Int32) (ha_fields : Nat → Int64) (hf_objectCount : Int32) (hf_roots : Int32) (hf_changed : Int32) (sa_linkedFrom : Nat → Int32) (sa_linkCounts : Nat → Int32) (sa_retainedSets : Nat → Int32) (sa_retainedSizes : Nat → Int32) (sa_dominators : Nat → Int32) (sa_immediateDominators : Nat → Int32) (sf_objectCount : Int32) (sf_roots : Int32) (sf_reachable : Int32) : Option (Int32 × Int32 × (Nat → Int32) × (Nat → Int32) × (Nat → Int32) × (Nat → Int32) × (Nat → Int32) × (Nat → Int32) × Int32 × Int32 × Int32) :=
  if (sxh_hasObject l1 hf_objectCount) = 0 then
    some (((-1), hf_changed, sa_linkedFrom, sa_linkCounts, sa_retainedSets, sa_retainedSizes, sa_dominators, sa_immediateDominators, sf_objectCount, sf_roots, sf_reachable))
  else
    (sxh_refreshSurvey ha_sizes ha_fields hf_objectCount hf_roots hf_changed sa_linkedFrom sa_linkCounts sa_retainedSets sa_retainedSizes sa_dominators sa_immediateDominators sf_objectCount sf_roots sf_reachable).bind fun v17 =>
      (sxs_retainedSizeOf l1 v17.2.2.2.2.1).bind fun v28 =>
        some (v28, v17.1, v17.2.1, v17.2.2.1, v17.2.2.2.1, v17.2.2.2.2.1, v17.2.2.2.2.2.1, v17.2.2.2.2.2.2.1, v17.2.2.2.2.2.2.2.1, v17.2.2.2.2.2.2.2.2.1, v17.2.2.2.2.2.2.2.2.2)
def sxq_isNumberAllowed (l1 : Int32) (l2 : Int32) (hf_classCount : Int32) : Option (Int32) :=
  if l1 = 8 then
    if (sxh_hasClass l2 hf_classCount) = 0 ∨ (sxh_hasClass l2 hf_classCount) = 1 then
      some (sxh_hasClass l2 hf_classCount)
    else none
  else
    if l1 = 9 then
      if (sxh_hasClass l2 hf_classCount) = 0 ∨ (sxh_hasClass l2 hf_classCount) = 1 then
        some (sxh_hasClass l2 hf_classCount)
      else none
    else
      if l1 = 10 then
        some 1
      else
        if l1 = 11 then
          some 1
        else
          if l1 = 12 then
            some 1
          else
            if l1 = 13 then
              if l2 < 0 then
                some 0
              else
                if 4 ≤ l2 then
                  some 0
                else
                  some 1
            else
              if l1 = 14 then
                if l2 < 0 then
                  some 0
                else
                  if 6 ≤ l2 then
                    some 0
                  else
                    some 1
              else
                some 1
def sxt_length (tf_count : Int32) : Int32 :=
  tf_count
def sxq_tokens (tf_count : Int32) : Int32 :=
  (sxt_length tf_count)
def sxt_openBrackets (tf_bracketCount : Int32) : Int32 :=
  tf_bracketCount
def sxq_depth (tf_bracketCount : Int32) : Int32 :=
  (sxt_openBrackets tf_bracketCount)
def sxw_rowCount (wf_count : Int32) : Int32 :=
  wf_count
def sxq_rows (wf_count : Int32) : Int32 :=
  (sxw_rowCount wf_count)
def sxw_hasRow (l1 : Int32) (wf_count : Int32) : Int32 :=
  if l1 < 0 then
    0
  else
    if wf_count ≤ l1 then
      0
    else
      1
def sxw_row (l1 : Int32) (wa_rows : Nat → Int64) : Option (Int64) :=
  if hq_I l1 192 = true then
    some (wa_rows l1.toNatClampNeg)
  else none
def sxv_kindOf (l0 : Int64) : Int32 :=
  ((l0.toUInt64 >>> ((32 : Int32).toInt64.toUInt64 &&& Int64.toUInt64 63)).toInt64).toInt32
def sxq_kind (l1 : Int32) (wa_rows : Nat → Int64) (wf_count : Int32) : Option (Int32) :=
  if (sxw_hasRow l1 wf_count) = 0 then
    some (-1)
  else
    (sxw_row l1 wa_rows).bind fun v16 =>
      some (sxv_kindOf v16)
def sxq_value (l1 : Int32) (wa_rows : Nat → Int64) (wf_count : Int32) : Option (Int32) :=
  if (sxw_hasRow l1 wf_count) = 0 then
    some 0
  else
    (sxw_row l1 wa_rows).bind fun v16 =>
      some (sxv_contentOf v16)
def sxw_lookCount (wf_looks : Int32) : Int32 :=
  wf_looks
def sxq_looked (wf_looks : Int32) : Int32 :=
  (sxw_lookCount wf_looks)
def sm_addClass (l1 : Int32) (f_classes : Int32) (a_parent : Nat → Int32) : Option (Int32 × Int32 × (Nat → Int32)) :=
  if l1 < (-1) then
    some (((-1), f_classes, a_parent))
  else
    if f_classes ≤ l1 then
      some (((-1), f_classes, a_parent))
    else
      if f_classes < 8 then
        if hq_I f_classes 8 = true then
          some (((f_classes + 1) - 1, f_classes + 1, upd a_parent f_classes.toNatClampNeg l1))
        else none
      else
        some (((-1), f_classes, a_parent))
def sm_addObject (l1 : Int32) (l2 : Int32) (f_classes : Int32) (f_objects : Int32) (a_kindOf : Nat → Int32) (a_size : Nat → Int32) : Option (Int32 × Int32 × (Nat → Int32) × (Nat → Int32)) :=
  if l1 < 0 then
    some (((-1), f_objects, a_kindOf, a_size))
  else
    if f_classes ≤ l1 then
      some (((-1), f_objects, a_kindOf, a_size))
    else
      if l2 < 1 then
        some (((-1), f_objects, a_kindOf, a_size))
      else
        if 1000 < l2 then
          some (((-1), f_objects, a_kindOf, a_size))
        else
          if f_objects < 24 then
            if hq_I f_objects 24 = true then
              if hq_I f_objects 24 = true then
                some (((f_objects + 1) - 1, f_objects + 1, upd a_kindOf f_objects.toNatClampNeg l1, upd a_size f_objects.toNatClampNeg l2))
              else none
            else none
          else
            some (((-1), f_objects, a_kindOf, a_size))
def sm_there (l1 : Int32) (f_objects : Int32) : Int32 :=
  if l1 < 0 then
    0
  else
    if f_objects ≤ l1 then
      0
    else
      1
def sm_set_J42 (l1 : Int32) (l2 : Int32) (l3 : Int32) (l4 : Int32) (f_objects : Int32) (a_slotKind : Nat → Int32) (a_slot : Nat → Int32) : Option (Int32 × (Nat → Int32) × (Nat → Int32)) :=
  if hq_I ((4 * l1) + l2) 96 = true then
    if l3 = 0 then
      if hq_I ((4 * l1) + l2) 96 = true then
        some ((1, upd a_slotKind ((4 * l1) + l2).toNatClampNeg l3, upd a_slot ((4 * l1) + l2).toNatClampNeg 0))
      else none
    else
      if hq_I ((4 * l1) + l2) 96 = true then
        some ((1, upd a_slotKind ((4 * l1) + l2).toNatClampNeg l3, upd a_slot ((4 * l1) + l2).toNatClampNeg l4))
      else none
  else none
def sm_set (l1 : Int32) (l2 : Int32) (l3 : Int32) (l4 : Int32) (f_objects : Int32) (a_slotKind : Nat → Int32) (a_slot : Nat → Int32) : Option (Int32 × (Nat → Int32) × (Nat → Int32)) :=
  if (sm_there l1 f_objects) = 0 then
    some (0, a_slotKind, a_slot)
  else
    if l2 < 0 then
      some (0, a_slotKind, a_slot)
    else
      if 3 < l2 then
        some (0, a_slotKind, a_slot)
      else
        if l3 < 0 then
          some (0, a_slotKind, a_slot)
        else
          if 2 < l3 then
            some (0, a_slotKind, a_slot)
          else
            if l3 = 2 then
              if (sm_there l4 f_objects) = 0 then
                some (0, a_slotKind, a_slot)
              else
                sm_set_J42 l1 l2 l3 l4 f_objects a_slotKind a_slot
            else
              sm_set_J42 l1 l2 l3 l4 f_objects a_slotKind a_slot
def sm_setRoot (l1 : Int32) (l2 : Int32) (f_objects : Int32) (a_root : Nat → Int32) : Option (Int32 × (Nat → Int32)) :=
  if (sm_there l1 f_objects) = 0 then
    some (0, a_root)
  else
    if hq_I l1 24 = true then
      if l2 = 0 ∨ l2 = 1 then
        some (1, upd a_root l1.toNatClampNeg l2)
      else none
    else none
def sm_reach_L87_B (rec : Int32 → Int32 → Int32 → Int32 → Int32 → Int32 → (Nat → Int32) → (Nat → Int32) → Option (Int32)) (l1 : Int32) (l2 : Int32) (l4 : Int32) (l5 : Int32) (l6 : Int32) (l8 : Int32) (a_slotKind : Nat → Int32) (a_slot : Nat → Int32) : Option (Int32) :=
  if ((4 * l6) + 4) ≤ l8 then
    some l2
  else
    if hq_I l8 96 = true then
      if (a_slotKind l8.toNatClampNeg) = 2 then
        if hq_I l8 96 = true then
          if ((l1 >>> ((a_slot l8.toNatClampNeg) &&& 31)) &&& 1) = 0 then
            if hq_I l8 96 = true then
              rec l1 (l2 ||| ((1 : Int32) <<< ((a_slot l8.toNatClampNeg) &&& 31))) l4 l5 l6 (l8 + 1) a_slotKind a_slot
            else none
          else
            rec l1 l2 l4 l5 l6 (l8 + 1) a_slotKind a_slot
        else none
      else
        rec l1 l2 l4 l5 l6 (l8 + 1) a_slotKind a_slot
    else none
def sm_reach_L87 : Nat → Int32 → Int32 → Int32 → Int32 → Int32 → Int32 → (Nat → Int32) → (Nat → Int32) → Option (Int32)
  | 0 => fun _ _ _ _ _ _ _ _ => none
  | n + 1 => sm_reach_L87_B (sm_reach_L87 n)
def sm_reach_J58 (rec : Int32 → Int32 → Int32 → Int32 → Int32 → Int32 → (Nat → Int32) → (Nat → Int32) → (Nat → Int32) → Option (Int32)) (l1 : Int32) (l2 : Int32) (l4 : Int32) (l5 : Int32) (l6 : Int32) (s0 : Int32) (f_objects : Int32) (a_root : Nat → Int32) (a_slotKind : Nat → Int32) (a_slot : Nat → Int32) : Option (Int32) :=
  if s0 = 0 then
    rec l1 l2 l4 l5 (l6 + 1) f_objects a_root a_slotKind a_slot
  else
    if ((l1 >>> (l6 &&& 31)) &&& 1) = 0 then
      (sm_reach_L87 kF l1 (l2 ||| ((1 : Int32) <<< (l6 &&& 31))) l4 l5 l6 (4 * l6) a_slotKind a_slot).bind fun u87 =>
        rec l1 u87 l4 l5 (l6 + 1) f_objects a_root a_slotKind a_slot
    else
      rec l1 l2 l4 l5 (l6 + 1) f_objects a_root a_slotKind a_slot
def sm_reach_J53 (rec : Int32 → Int32 → Int32 → Int32 → Int32 → Int32 → (Nat → Int32) → (Nat → Int32) → (Nat → Int32) → Option (Int32)) (l1 : Int32) (l2 : Int32) (l4 : Int32) (l5 : Int32) (l6 : Int32) (f_objects : Int32) (a_root : Nat → Int32) (a_slotKind : Nat → Int32) (a_slot : Nat → Int32) : Option (Int32) :=
  sm_reach_J58 rec l1 l2 l4 l5 l6 1 f_objects a_root a_slotKind a_slot
def sm_reach_L24_B (rec : Int32 → Int32 → Int32 → Int32 → Int32 → Int32 → (Nat → Int32) → (Nat → Int32) → (Nat → Int32) → Option (Int32)) (l1 : Int32) (l2 : Int32) (l4 : Int32) (l5 : Int32) (l6 : Int32) (f_objects : Int32) (a_root : Nat → Int32) (a_slotKind : Nat → Int32) (a_slot : Nat → Int32) : Option (Int32) :=
  if f_objects ≤ l6 then
    some l2
  else
    if hq_I l6 24 = true then
      if (a_root l6.toNatClampNeg) = 0 then
        if ((l2 >>> (l6 &&& 31)) &&& 1) = 1 then
          sm_reach_J53 rec l1 l2 l4 l5 l6 f_objects a_root a_slotKind a_slot
        else
          sm_reach_J58 rec l1 l2 l4 l5 l6 0 f_objects a_root a_slotKind a_slot
      else
        sm_reach_J53 rec l1 l2 l4 l5 l6 f_objects a_root a_slotKind a_slot
    else none
def sm_reach_L24 : Nat → Int32 → Int32 → Int32 → Int32 → Int32 → Int32 → (Nat → Int32) → (Nat → Int32) → (Nat → Int32) → Option (Int32)
  | 0 => fun _ _ _ _ _ _ _ _ _ => none
  | n + 1 => sm_reach_L24_B (sm_reach_L24 n)
def sm_reach_L7_B (rec : Int32 → Int32 → Int32 → Int32 → Int32 → (Nat → Int32) → (Nat → Int32) → (Nat → Int32) → Option (Int32)) (l1 : Int32) (l2 : Int32) (l3 : Int32) (l4 : Int32) (f_objects : Int32) (a_root : Nat → Int32) (a_slotKind : Nat → Int32) (a_slot : Nat → Int32) : Option (Int32) :=
  if 24 < l4 then
    some l2
  else
    if l3 = 0 then
      some l2
    else
      (sm_reach_L24 kF l1 l2 l4 l2 0 f_objects a_root a_slotKind a_slot).bind fun u24 =>
        if u24 = l2 then
          rec l1 u24 0 (l4 + 1) f_objects a_root a_slotKind a_slot
        else
          rec l1 u24 1 (l4 + 1) f_objects a_root a_slotKind a_slot
def sm_reach_L7 : Nat → Int32 → Int32 → Int32 → Int32 → Int32 → (Nat → Int32) → (Nat → Int32) → (Nat → Int32) → Option (Int32)
  | 0 => fun _ _ _ _ _ _ _ _ => none
  | n + 1 => sm_reach_L7_B (sm_reach_L7 n)
def sm_reach (l1 : Int32) (f_objects : Int32) (a_root : Nat → Int32) (a_slotKind : Nat → Int32) (a_slot : Nat → Int32) : Option (Int32) :=
  (sm_reach_L7 kF l1 0 1 0 f_objects a_root a_slotKind a_slot).bind fun u7 =>
    some u7
def sm_keepSets_L8_B (rec : Int32 → Int32 → Int32 → (Nat → Int32) → (Nat → Int32) → (Nat → Int32) → (Nat → Int32) → Option (Nat → Int32)) (l1 : Int32) (l2 : Int32) (f_objects : Int32) (a_root : Nat → Int32) (a_slotKind : Nat → Int32) (a_slot : Nat → Int32) (a_kept : Nat → Int32) : Option (Nat → Int32) :=
  if f_objects ≤ l2 then
    some a_kept
  else
    (sm_reach ((1 : Int32) <<< (l2 &&& 31)) f_objects a_root a_slotKind a_slot).bind fun v26 =>
      if hq_I l2 24 = true then
        rec l1 (l2 + 1) f_objects a_root a_slotKind a_slot (upd a_kept l2.toNatClampNeg (l1 &&& (v26 ^^^ (-1))))
      else none
def sm_keepSets_L8 : Nat → Int32 → Int32 → Int32 → (Nat → Int32) → (Nat → Int32) → (Nat → Int32) → (Nat → Int32) → Option (Nat → Int32)
  | 0 => fun _ _ _ _ _ _ _ => none
  | n + 1 => sm_keepSets_L8_B (sm_keepSets_L8 n)
def sm_keepSets (f_objects : Int32) (a_root : Nat → Int32) (a_slotKind : Nat → Int32) (a_slot : Nat → Int32) (a_kept : Nat → Int32) : Option (Nat → Int32) :=
  (sm_reach 0 f_objects a_root a_slotKind a_slot).bind fun v2 =>
    (sm_keepSets_L8 kF v2 0 f_objects a_root a_slotKind a_slot a_kept).bind fun u8 =>
      some u8
def sm_sum_L4_B (rec : Int32 → Int32 → Int32 → Int32 → (Nat → Int32) → Option (Int32)) (l1 : Int32) (l2 : Int32) (l3 : Int32) (f_objects : Int32) (a_size : Nat → Int32) : Option (Int32) :=
  if f_objects ≤ l3 then
    some l2
  else
    if ((l1 >>> (l3 &&& 31)) &&& 1) = 1 then
      if hq_I l3 24 = true then
        rec l1 (l2 + (a_size l3.toNatClampNeg)) (l3 + 1) f_objects a_size
      else none
    else
      rec l1 l2 (l3 + 1) f_objects a_size
def sm_sum_L4 : Nat → Int32 → Int32 → Int32 → Int32 → (Nat → Int32) → Option (Int32)
  | 0 => fun _ _ _ _ _ => none
  | n + 1 => sm_sum_L4_B (sm_sum_L4 n)
def sm_sum (l1 : Int32) (f_objects : Int32) (a_size : Nat → Int32) : Option (Int32) :=
  (sm_sum_L4 kF l1 0 0 f_objects a_size).bind fun u4 =>
    some u4
def sm_dominates (l1 : Int32) (l2 : Int32) (a_kept : Nat → Int32) : Option (Int32) :=
  if l1 = l2 then
    some 0
  else
    if hq_I l1 24 = true then
      if (((a_kept l1.toNatClampNeg) >>> (l2 &&& 31)) &&& 1) = 1 then
        some 1
      else
        some 0
    else none
def sm_immediate_L20_B (rec : Int32 → Int32 → Int32 → Int32 → Int32 → (Nat → Int32) → Option (Int32)) (l1 : Int32) (l2 : Int32) (l3 : Int32) (l4 : Int32) (f_objects : Int32) (a_kept : Nat → Int32) : Option (Int32) :=
  if f_objects ≤ l4 then
    some l3
  else
    if l3 = 0 then
      some l3
    else
      if l4 = l2 then
        rec l1 l2 1 (l4 + 1) f_objects a_kept
      else
        (sm_dominates l4 l1 a_kept).bind fun v43 =>
          if v43 = 0 then
            rec l1 l2 1 (l4 + 1) f_objects a_kept
          else
            (sm_dominates l4 l2 a_kept).bind fun v53 =>
              if v53 = 0 then
                rec l1 l2 0 (l4 + 1) f_objects a_kept
              else
                rec l1 l2 1 (l4 + 1) f_objects a_kept
def sm_immediate_L20 : Nat → Int32 → Int32 → Int32 → Int32 → Int32 → (Nat → Int32) → Option (Int32)
  | 0 => fun _ _ _ _ _ _ => none
  | n + 1 => sm_immediate_L20_B (sm_immediate_L20 n)
def sm_immediate_J71 (rec : Int32 → Int32 → Int32 → (Nat → Int32) → Option (Int32)) (l1 : Int32) (l2 : Int32) (l3 : Int32) (f_objects : Int32) (a_kept : Nat → Int32) : Option (Int32) :=
  if l3 = 0 then
    rec l1 (l2 + 1) f_objects a_kept
  else
    some l2
def sm_immediate_L2_B (rec : Int32 → Int32 → Int32 → (Nat → Int32) → Option (Int32)) (l1 : Int32) (l2 : Int32) (f_objects : Int32) (a_kept : Nat → Int32) : Option (Int32) :=
  if f_objects ≤ l2 then
    some (-1)
  else
    (sm_dominates l2 l1 a_kept).bind fun v13 =>
      (sm_immediate_L20 kF l1 l2 v13 0 f_objects a_kept).bind fun u20 =>
        sm_immediate_J71 rec l1 l2 u20 f_objects a_kept
def sm_immediate_L2 : Nat → Int32 → Int32 → Int32 → (Nat → Int32) → Option (Int32)
  | 0 => fun _ _ _ _ => none
  | n + 1 => sm_immediate_L2_B (sm_immediate_L2 n)
def sm_immediate (l1 : Int32) (f_objects : Int32) (a_kept : Nat → Int32) : Option (Int32) :=
  sm_immediate_L2 kF l1 0 f_objects a_kept
def sm_dominator (l1 : Int32) (f_objects : Int32) (a_root : Nat → Int32) (a_slotKind : Nat → Int32) (a_slot : Nat → Int32) (a_kept : Nat → Int32) : Option (Int32 × (Nat → Int32)) :=
  if (sm_there l1 f_objects) = 0 then
    some (((-2), a_kept))
  else
    (sm_keepSets f_objects a_root a_slotKind a_slot a_kept).bind fun v12 =>
      (sm_immediate l1 f_objects v12).bind fun v17 =>
        some (v17, v12)
def sm_retained (l1 : Int32) (f_objects : Int32) (a_size : Nat → Int32) (a_root : Nat → Int32) (a_slotKind : Nat → Int32) (a_slot : Nat → Int32) : Option (Int32) :=
  if (sm_there l1 f_objects) = 0 then
    some (-1)
  else
    (sm_reach 0 f_objects a_root a_slotKind a_slot).bind fun v13 =>
      (sm_reach ((1 : Int32) <<< (l1 &&& 31)) f_objects a_root a_slotKind a_slot).bind fun v20 =>
        (sm_sum (v13 &&& (v20 ^^^ (-1))) f_objects a_size).bind fun v26 =>
          some v26
def sm_start (f_want : Int32) (f_compared : Int32) (f_open : Int32) : Int32 × Int32 × Int32 :=
  (0, 0, 0)
def sm_push (l1 : Int32) (f_open : Int32) (a_opened : Nat → Int32) : Option (Int32 × (Nat → Int32)) :=
  if hq_I f_open 41 = true then
    some (f_open + 1, upd a_opened f_open.toNatClampNeg l1)
  else none
def sm_becomes (l1 : Int32) (f_want : Int32) : Int32 × Int32 :=
  (1, l1)
def sm_operand_J91 (s1 : Int32) (f_want : Int32) (f_compared : Int32) (f_open : Int32) (a_opened : Nat → Int32) : Option (Int32 × Int32 × Int32 × Int32 × (Nat → Int32)) :=
  (sm_push s1 f_open a_opened).bind fun v91 =>
    if ((sm_becomes 3 f_want).1) = 0 ∨ ((sm_becomes 3 f_want).1) = 1 then
      some (((sm_becomes 3 f_want).1, (sm_becomes 3 f_want).2, 0, v91.1, v91.2))
    else none
def sm_operand_J70 (l1 : Int32) (f_want : Int32) (f_compared : Int32) (f_open : Int32) (a_opened : Nat → Int32) : Option (Int32 × Int32 × Int32 × Int32 × (Nat → Int32)) :=
  if l1 = 6 then
    if f_compared = 0 then
      sm_operand_J91 2 f_want f_compared f_open a_opened
    else
      sm_operand_J91 4 f_want f_compared f_open a_opened
  else
    some (0, f_want, f_compared, f_open, a_opened)
def sm_operand_J52 (l1 : Int32) (f_want : Int32) (f_compared : Int32) (f_open : Int32) (a_opened : Nat → Int32) : Option (Int32 × Int32 × Int32 × Int32 × (Nat → Int32)) :=
  if l1 < 10 then
    sm_operand_J70 l1 f_want f_compared f_open a_opened
  else
    if 12 < l1 then
      sm_operand_J70 l1 f_want f_compared f_open a_opened
    else
      if ((sm_becomes 5 f_want).1) = 0 ∨ ((sm_becomes 5 f_want).1) = 1 then
        some (((sm_becomes 5 f_want).1, (sm_becomes 5 f_want).2, f_compared, f_open, a_opened))
      else none
def sm_operand_J32 (l1 : Int32) (f_want : Int32) (f_compared : Int32) (f_open : Int32) (a_opened : Nat → Int32) : Option (Int32 × Int32 × Int32 × Int32 × (Nat → Int32)) :=
  if l1 = 17 then
    if 3 < f_want then
      sm_operand_J52 l1 f_want f_compared f_open a_opened
    else
      if ((sm_becomes 3 f_want).1) = 0 ∨ ((sm_becomes 3 f_want).1) = 1 then
        some (((sm_becomes 3 f_want).1, (sm_becomes 3 f_want).2, f_compared, f_open, a_opened))
      else none
  else
    sm_operand_J52 l1 f_want f_compared f_open a_opened
def sm_operand_J19 (l1 : Int32) (f_want : Int32) (f_compared : Int32) (f_open : Int32) (a_opened : Nat → Int32) : Option (Int32 × Int32 × Int32 × Int32 × (Nat → Int32)) :=
  if l1 = 2 then
    if f_want ≤ 2 then
      if ((sm_becomes 3 f_want).1) = 0 ∨ ((sm_becomes 3 f_want).1) = 1 then
        some (((sm_becomes 3 f_want).1, (sm_becomes 3 f_want).2, f_compared, f_open, a_opened))
      else none
    else
      sm_operand_J32 l1 f_want f_compared f_open a_opened
  else
    sm_operand_J32 l1 f_want f_compared f_open a_opened
def sm_operand (l1 : Int32) (f_want : Int32) (f_compared : Int32) (f_open : Int32) (a_opened : Nat → Int32) : Option (Int32 × Int32 × Int32 × Int32 × (Nat → Int32)) :=
  if l1 = 1 then
    if f_want = 1 then
      if ((sm_becomes 2 f_want).1) = 0 ∨ ((sm_becomes 2 f_want).1) = 1 then
        some (((sm_becomes 2 f_want).1, (sm_becomes 2 f_want).2, f_compared, f_open, a_opened))
      else none
    else
      sm_operand_J19 l1 f_want f_compared f_open a_opened
  else
    sm_operand_J19 l1 f_want f_compared f_open a_opened
def sm_ends_J56 (l1 : Int32) (f_want : Int32) (f_open : Int32) (a_opened : Nat → Int32) : Option (Int32 × Int32 × Int32) :=
  if l1 = 24 then
    if f_open = 0 then
      if ((sm_becomes 8 f_want).1) = 0 then
        some ((0, (sm_becomes 8 f_want).2, f_open))
      else
        some ((1, (sm_becomes 8 f_want).2, f_open))
    else
      some (0, f_want, f_open)
  else
    some (0, f_want, f_open)
def sm_ends (l1 : Int32) (f_want : Int32) (f_open : Int32) (a_opened : Nat → Int32) : Option (Int32 × Int32 × Int32) :=
  if l1 = 5 then
    if ((sm_becomes 0 f_want).1) = 0 ∨ ((sm_becomes 0 f_want).1) = 1 then
      some (((sm_becomes 0 f_want).1, (sm_becomes 0 f_want).2, f_open))
    else none
  else
    if l1 = 7 then
      if f_open ≤ 0 then
        sm_ends_J56 l1 f_want f_open a_opened
      else
        if hq_I (f_open - 1) 41 = true then
          if (a_opened (f_open - 1).toNatClampNeg) = 3 then
            if ((sm_becomes 7 f_want).1) = 0 ∨ ((sm_becomes 7 f_want).1) = 1 then
              some (((sm_becomes 7 f_want).1, (sm_becomes 7 f_want).2, f_open - 1))
            else none
          else
            sm_ends_J56 l1 f_want f_open a_opened
        else none
    else
      sm_ends_J56 l1 f_want f_open a_opened
def sm_behind_J165 (l1 : Int32) (l2 : Int32) (f_want : Int32) (f_compared : Int32) (f_open : Int32) (a_opened : Nat → Int32) : Option (Int32 × Int32 × Int32 × Int32) :=
  if l2 = 1 then
    (sm_ends l1 f_want (f_open - 1) a_opened).bind fun v184 =>
      if v184.1 = 0 ∨ v184.1 = 1 then
        some (v184.1, v184.2.1, f_compared, v184.2.2)
      else none
  else
    some (0, f_want, f_compared, f_open)
def sm_behind_J139 (l1 : Int32) (l2 : Int32) (f_want : Int32) (f_compared : Int32) (f_open : Int32) (a_opened : Nat → Int32) : Option (Int32 × Int32 × Int32 × Int32) :=
  if l1 = 3 then
    if l2 = 0 then
      if ((sm_becomes 6 f_want).1) = 0 ∨ ((sm_becomes 6 f_want).1) = 1 then
        some (((sm_becomes 6 f_want).1, (sm_becomes 6 f_want).2, f_compared, f_open - 1))
      else none
    else
      sm_behind_J165 l1 l2 f_want f_compared f_open a_opened
  else
    sm_behind_J165 l1 l2 f_want f_compared f_open a_opened
def sm_behind_J113 (l2 : Int32) (f_want : Int32) (f_compared : Int32) (f_open : Int32) (a_opened : Nat → Int32) : Option (Int32 × Int32 × Int32 × Int32) :=
  if l2 = 4 then
    some (1, f_want, 1, f_open - 1)
  else
    some (1, f_want, 0, f_open - 1)
def sm_behind_J86 (f_want : Int32) (f_compared : Int32) (f_open : Int32) (a_opened : Nat → Int32) : Option (Int32 × Int32 × Int32 × Int32) :=
  if ((sm_becomes 3 f_want).1) = 0 ∨ ((sm_becomes 3 f_want).1) = 1 then
    some (((sm_becomes 3 f_want).1, (sm_becomes 3 f_want).2, 0, f_open))
  else none
def sm_behind_J74 (l1 : Int32) (l2 : Int32) (f_want : Int32) (f_compared : Int32) (f_open : Int32) (a_opened : Nat → Int32) : Option (Int32 × Int32 × Int32 × Int32) :=
  if l1 = 15 then
    sm_behind_J86 f_want f_compared f_open a_opened
  else
    if l1 = 16 then
      sm_behind_J86 f_want f_compared f_open a_opened
    else
      if l1 = 7 then
        if l2 = 2 then
          sm_behind_J113 l2 f_want f_compared f_open a_opened
        else
          if l2 = 4 then
            sm_behind_J113 l2 f_want f_compared f_open a_opened
          else
            sm_behind_J139 l1 l2 f_want f_compared f_open a_opened
      else
        sm_behind_J139 l1 l2 f_want f_compared f_open a_opened
def sm_behind_J44 (l1 : Int32) (l2 : Int32) (f_want : Int32) (f_compared : Int32) (f_open : Int32) (a_opened : Nat → Int32) : Option (Int32 × Int32 × Int32 × Int32) :=
  if l1 < 18 then
    sm_behind_J74 l1 l2 f_want f_compared f_open a_opened
  else
    if 20 < l1 then
      sm_behind_J74 l1 l2 f_want f_compared f_open a_opened
    else
      if f_compared = 0 then
        if ((sm_becomes 4 f_want).1) = 0 ∨ ((sm_becomes 4 f_want).1) = 1 then
          some (((sm_becomes 4 f_want).1, (sm_becomes 4 f_want).2, 1, f_open))
        else none
      else
        sm_behind_J74 l1 l2 f_want f_compared f_open a_opened
def sm_behind (l1 : Int32) (f_want : Int32) (f_compared : Int32) (f_open : Int32) (a_opened : Nat → Int32) : Option (Int32 × Int32 × Int32 × Int32) :=
  if hq_I (f_open - 1) 41 = true then
    if l1 = 13 then
      some (1, f_want, f_compared, f_open)
    else
      if l1 = 14 then
        some (1, f_want, f_compared, f_open)
      else
        if l1 < 21 then
          sm_behind_J44 l1 (a_opened (f_open - 1).toNatClampNeg) f_want f_compared f_open a_opened
        else
          if 23 < l1 then
            sm_behind_J44 l1 (a_opened (f_open - 1).toNatClampNeg) f_want f_compared f_open a_opened
          else
            if ((sm_becomes 4 f_want).1) = 0 ∨ ((sm_becomes 4 f_want).1) = 1 then
              some (((sm_becomes 4 f_want).1, (sm_becomes 4 f_want).2, f_compared, f_open))
            else none
  else none
def sm_step_J147 (l1 : Int32) (f_want : Int32) (f_compared : Int32) (f_open : Int32) (a_opened : Nat → Int32) : Option (Int32 × Int32 × Int32 × Int32 × (Nat → Int32)) :=
  if f_want = 7 then
    (sm_ends l1 f_want f_open a_opened).bind fun v158 =>
      if v158.1 = 0 then
        some (0, v158.2.1, f_compared, v158.2.2, a_opened)
      else
        some (1, v158.2.1, f_compared, v158.2.2, a_opened)
  else
    some (0, f_want, f_compared, f_open, a_opened)
def sm_step_J117 (l1 : Int32) (f_want : Int32) (f_compared : Int32) (f_open : Int32) (a_opened : Nat → Int32) : Option (Int32 × Int32 × Int32 × Int32 × (Nat → Int32)) :=
  if f_want = 7 then
    if l1 = 4 then
      (sm_push 1 f_open a_opened).bind fun v133 =>
        if ((sm_becomes 3 f_want).1) = 0 ∨ ((sm_becomes 3 f_want).1) = 1 then
          some (((sm_becomes 3 f_want).1, (sm_becomes 3 f_want).2, 0, v133.1, v133.2))
        else none
    else
      sm_step_J147 l1 f_want f_compared f_open a_opened
  else
    sm_step_J147 l1 f_want f_compared f_open a_opened
def sm_step_J89 (l1 : Int32) (f_want : Int32) (f_compared : Int32) (f_open : Int32) (a_opened : Nat → Int32) : Option (Int32 × Int32 × Int32 × Int32 × (Nat → Int32)) :=
  if f_want = 6 then
    if l1 = 8 then
      if ((sm_becomes 7 f_want).1) = 0 ∨ ((sm_becomes 7 f_want).1) = 1 then
        some (((sm_becomes 7 f_want).1, (sm_becomes 7 f_want).2, f_compared, f_open, a_opened))
      else none
    else
      if l1 = 9 then
        if ((sm_becomes 7 f_want).1) = 0 ∨ ((sm_becomes 7 f_want).1) = 1 then
          some (((sm_becomes 7 f_want).1, (sm_becomes 7 f_want).2, f_compared, f_open, a_opened))
        else none
      else
        sm_step_J117 l1 f_want f_compared f_open a_opened
  else
    sm_step_J117 l1 f_want f_compared f_open a_opened
def sm_step_J49 (l1 : Int32) (f_want : Int32) (f_compared : Int32) (f_open : Int32) (a_opened : Nat → Int32) : Option (Int32 × Int32 × Int32 × Int32 × (Nat → Int32)) :=
  if f_want = 5 then
    (sm_behind l1 f_want f_compared f_open a_opened).bind fun v59 =>
      if v59.1 = 0 ∨ v59.1 = 1 then
        some (v59.1, v59.2.1, v59.2.2.1, v59.2.2.2, a_opened)
      else none
  else
    if f_want = 6 then
      if l1 = 6 then
        (sm_push 3 f_open a_opened).bind fun v80 =>
          if ((sm_becomes 0 f_want).1) = 0 ∨ ((sm_becomes 0 f_want).1) = 1 then
            some (((sm_becomes 0 f_want).1, (sm_becomes 0 f_want).2, f_compared, v80.1, v80.2))
          else none
      else
        sm_step_J89 l1 f_want f_compared f_open a_opened
    else
      sm_step_J89 l1 f_want f_compared f_open a_opened
def sm_step_J27 (l1 : Int32) (f_want : Int32) (f_compared : Int32) (f_open : Int32) (a_opened : Nat → Int32) : Option (Int32 × Int32 × Int32 × Int32 × (Nat → Int32)) :=
  if f_want < 1 then
    sm_step_J49 l1 f_want f_compared f_open a_opened
  else
    if 4 < f_want then
      sm_step_J49 l1 f_want f_compared f_open a_opened
    else
      (sm_operand l1 f_want f_compared f_open a_opened).bind fun v45 =>
        if v45.1 = 0 ∨ v45.1 = 1 then
          some (v45.1, v45.2.1, v45.2.2.1, v45.2.2.2.1, v45.2.2.2.2)
        else none
def sm_step (l1 : Int32) (f_want : Int32) (f_compared : Int32) (f_open : Int32) (a_opened : Nat → Int32) : Option (Int32 × Int32 × Int32 × Int32 × (Nat → Int32)) :=
  if f_want = 0 then
    if l1 = 0 then
      (sm_push 0 f_open a_opened).bind fun v13 =>
        if ((sm_becomes 1 f_want).1) = 0 ∨ ((sm_becomes 1 f_want).1) = 1 then
          some (((sm_becomes 1 f_want).1, (sm_becomes 1 f_want).2, 0, v13.1, v13.2))
        else none
    else
      sm_step_J27 l1 f_want f_compared f_open a_opened
  else
    sm_step_J27 l1 f_want f_compared f_open a_opened
def sm_fits_J42 (l1 : Int32) (l2 : Int32) (f_classes : Int32) : Int32 :=
  if l2 < 0 then
    0
  else
    if l1 = 13 then
      if 3 < l2 then
        0
      else
        1
    else
      if 5 < l2 then
        0
      else
        1
def sm_fits_J12 (l2 : Int32) (f_classes : Int32) : Int32 :=
  if l2 < 0 then
    0
  else
    if f_classes ≤ l2 then
      0
    else
      1
def sm_fits (l1 : Int32) (l2 : Int32) (f_classes : Int32) : Int32 :=
  if l1 = 8 then
    sm_fits_J12 l2 f_classes
  else
    if l1 = 9 then
      sm_fits_J12 l2 f_classes
    else
      if l1 = 13 then
        sm_fits_J42 l1 l2 f_classes
      else
        if l1 = 14 then
          sm_fits_J42 l1 l2 f_classes
        else
          1
def sm_token_J90 (l3 : Int32) (f_classes : Int32) (f_count : Int32) (a_code : Nat → Int32) (a_number : Nat → Int32) (f_want : Int32) (f_compared : Int32) (f_open : Int32) (a_opened : Nat → Int32) : Option (Int32 × Int32 × (Nat → Int32) × (Nat → Int32) × Int32 × Int32 × Int32 × (Nat → Int32)) :=
  if l3 = 0 then
    if l3 = 0 ∨ l3 = 1 then
      some (l3, f_count, a_code, a_number, f_want, f_compared, f_open, a_opened)
    else none
  else
    if l3 = 0 ∨ l3 = 1 then
      some (l3, f_count + 1, a_code, a_number, f_want, f_compared, f_open, a_opened)
    else none
def sm_token_L59_B (rec : Int32 → Int32 → Int32 → (Nat → Int32) → Int32 → Int32 → Int32 → (Nat → Int32) → Option (Int32 × Int32 × Int32 × Int32 × (Nat → Int32))) (l3 : Int32) (l4 : Int32) (f_count : Int32) (a_code : Nat → Int32) (f_want : Int32) (f_compared : Int32) (f_open : Int32) (a_opened : Nat → Int32) : Option (Int32 × Int32 × Int32 × Int32 × (Nat → Int32)) :=
  if f_count < l4 then
    some (l3, f_want, f_compared, f_open, a_opened)
  else
    if l3 = 0 then
      some (l3, f_want, f_compared, f_open, a_opened)
    else
      if hq_I l4 40 = true then
        (sm_step (a_code l4.toNatClampNeg) f_want f_compared f_open a_opened).bind fun v80 =>
          rec v80.1 (l4 + 1) f_count a_code v80.2.1 v80.2.2.1 v80.2.2.2.1 v80.2.2.2.2
      else none
def sm_token_L59 : Nat → Int32 → Int32 → Int32 → (Nat → Int32) → Int32 → Int32 → Int32 → (Nat → Int32) → Option (Int32 × Int32 × Int32 × Int32 × (Nat → Int32))
  | 0 => fun _ _ _ _ _ _ _ _ => none
  | n + 1 => sm_token_L59_B (sm_token_L59 n)
def sm_token (l1 : Int32) (l2 : Int32) (f_classes : Int32) (f_count : Int32) (a_code : Nat → Int32) (a_number : Nat → Int32) (f_want : Int32) (f_compared : Int32) (f_open : Int32) (a_opened : Nat → Int32) : Option (Int32 × Int32 × (Nat → Int32) × (Nat → Int32) × Int32 × Int32 × Int32 × (Nat → Int32)) :=
  if l1 < 0 then
    some (0, f_count, a_code, a_number, f_want, f_compared, f_open, a_opened)
  else
    if 24 < l1 then
      some (0, f_count, a_code, a_number, f_want, f_compared, f_open, a_opened)
    else
      if 40 ≤ f_count then
        some (0, f_count, a_code, a_number, f_want, f_compared, f_open, a_opened)
      else
        if (sm_fits l1 l2 f_classes) = 0 then
          some (0, f_count, a_code, a_number, f_want, f_compared, f_open, a_opened)
        else
          if hq_I f_count 40 = true then
            if hq_I f_count 40 = true then
              (sm_token_L59 kF 1 0 f_count (upd a_code f_count.toNatClampNeg l1) ((sm_start f_want f_compared f_open).1) ((sm_start f_want f_compared f_open).2.1) ((sm_start f_want f_compared f_open).2.2) a_opened).bind fun u59 =>
                sm_token_J90 u59.1 f_classes f_count (upd a_code f_count.toNatClampNeg l1) (upd a_number f_count.toNatClampNeg l2) u59.2.1 u59.2.2.1 u59.2.2.2.1 u59.2.2.2.2
            else none
          else none
def sm_tokens (f_count : Int32) : Int32 :=
  f_count
def sm_depth_L4_B (rec : Int32 → Int32 → Int32 → (Nat → Int32) → Option (Int32)) (l1 : Int32) (l2 : Int32) (f_count : Int32) (a_code : Nat → Int32) : Option (Int32) :=
  if f_count ≤ l2 then
    some l1
  else
    if hq_I l2 40 = true then
      if (a_code l2.toNatClampNeg) = 6 then
        rec (l1 + 1) (l2 + 1) f_count a_code
      else
        if hq_I l2 40 = true then
          if (a_code l2.toNatClampNeg) = 7 then
            rec (l1 - 1) (l2 + 1) f_count a_code
          else
            rec l1 (l2 + 1) f_count a_code
        else none
    else none
def sm_depth_L4 : Nat → Int32 → Int32 → Int32 → (Nat → Int32) → Option (Int32)
  | 0 => fun _ _ _ _ => none
  | n + 1 => sm_depth_L4_B (sm_depth_L4 n)
def sm_depth (f_count : Int32) (a_code : Nat → Int32) : Option (Int32) :=
  (sm_depth_L4 kF 0 0 f_count a_code).bind fun u4 =>
    some u4
def sm_clear (f_count : Int32) : Int32 :=
  0
def sm_under_J34 (l2 : Int32) (l3 : Int32) (a_parent : Nat → Int32) : Option (Int32) :=
  if l3 = l2 then
    some 1
  else
    some 0
def sm_under_L5_B (rec : Int32 → Int32 → Int32 → (Nat → Int32) → Option (Int32)) (l2 : Int32) (l3 : Int32) (l4 : Int32) (a_parent : Nat → Int32) : Option (Int32) :=
  if 8 ≤ l4 then
    some l3
  else
    if l3 < 0 then
      some l3
    else
      if l3 = l2 then
        some l3
      else
        if hq_I l3 8 = true then
          rec l2 (a_parent l3.toNatClampNeg) (l4 + 1) a_parent
        else none
def sm_under_L5 : Nat → Int32 → Int32 → Int32 → (Nat → Int32) → Option (Int32)
  | 0 => fun _ _ _ _ => none
  | n + 1 => sm_under_L5_B (sm_under_L5 n)
def sm_under (l1 : Int32) (l2 : Int32) (a_parent : Nat → Int32) : Option (Int32) :=
  (sm_under_L5 kF l2 l1 0 a_parent).bind fun u5 =>
    sm_under_J34 l2 u5 a_parent
def sm_gather_J163 (rec : Int32 → Int32 → (Nat → Int32) → Int32 → (Nat → Int32) → (Nat → Int32) → (Nat → Int32) → Int32 → (Nat → Int32) → Option (Int32 × (Nat → Int32))) (l1 : Int32) (l2 : Int32) (s0 : Int32) (a_parent : Nat → Int32) (f_objects : Int32) (a_kindOf : Nat → Int32) (a_code : Nat → Int32) (a_number : Nat → Int32) (f_many : Int32) (a_list : Nat → Int32) : Option (Int32 × (Nat → Int32)) :=
  if hq_I f_many 200 = true then
    if s0 = 0 then
      rec l1 (l2 + 1) a_parent f_objects a_kindOf a_code a_number f_many (upd a_list f_many.toNatClampNeg l2)
    else
      rec l1 (l2 + 1) a_parent f_objects a_kindOf a_code a_number (f_many + 1) (upd a_list f_many.toNatClampNeg l2)
  else none
def sm_gather_L105_B (rec : Int32 → Int32 → (Nat → Int32) → Int32 → (Nat → Int32) → (Nat → Int32) → (Nat → Int32) → Int32 → (Nat → Int32) → Option (Int32 × (Nat → Int32))) (l1 : Int32) (l2 : Int32) (a_parent : Nat → Int32) (f_objects : Int32) (a_kindOf : Nat → Int32) (a_code : Nat → Int32) (a_number : Nat → Int32) (f_many : Int32) (a_list : Nat → Int32) : Option (Int32 × (Nat → Int32)) :=
  if f_objects ≤ l2 then
    some (f_many, a_list)
  else
    if hq_I l1 40 = true then
      if (a_code l1.toNatClampNeg) = 8 then
        if hq_I l2 24 = true then
          if hq_I l1 40 = true then
            if (a_kindOf l2.toNatClampNeg) = (a_number l1.toNatClampNeg) then
              sm_gather_J163 rec l1 l2 1 a_parent f_objects a_kindOf a_code a_number f_many a_list
            else
              sm_gather_J163 rec l1 l2 0 a_parent f_objects a_kindOf a_code a_number f_many a_list
          else none
        else none
      else
        if hq_I l2 24 = true then
          if hq_I l1 40 = true then
            (sm_under (a_kindOf l2.toNatClampNeg) (a_number l1.toNatClampNeg) a_parent).bind fun v160 =>
              sm_gather_J163 rec l1 l2 v160 a_parent f_objects a_kindOf a_code a_number f_many a_list
          else none
        else none
    else none
def sm_gather_L105 : Nat → Int32 → Int32 → (Nat → Int32) → Int32 → (Nat → Int32) → (Nat → Int32) → (Nat → Int32) → Int32 → (Nat → Int32) → Option (Int32 × (Nat → Int32))
  | 0 => fun _ _ _ _ _ _ _ _ _ => none
  | n + 1 => sm_gather_L105_B (sm_gather_L105 n)
def sm_gather_L31_B (rec : Int32 → Int32 → (Nat → Int32) → (Nat → Int32) → Int32 → (Nat → Int32) → Option (Int32 × (Nat → Int32))) (l2 : Int32) (f_rowCount : Int32) (a_rowKind : Nat → Int32) (a_rowValue : Nat → Int32) (f_many : Int32) (a_list : Nat → Int32) : Option (Int32 × (Nat → Int32)) :=
  if f_rowCount ≤ l2 then
    some (f_many, a_list)
  else
    if hq_I l2 200 = true then
      if hq_I f_many 200 = true then
        if hq_I l2 200 = true then
          if (a_rowKind l2.toNatClampNeg) = 2 then
            rec (l2 + 1) f_rowCount a_rowKind a_rowValue (f_many + 1) (upd a_list f_many.toNatClampNeg (a_rowValue l2.toNatClampNeg))
          else
            rec (l2 + 1) f_rowCount a_rowKind a_rowValue f_many (upd a_list f_many.toNatClampNeg (a_rowValue l2.toNatClampNeg))
        else none
      else none
    else none
def sm_gather_L31 : Nat → Int32 → Int32 → (Nat → Int32) → (Nat → Int32) → Int32 → (Nat → Int32) → Option (Int32 × (Nat → Int32))
  | 0 => fun _ _ _ _ _ _ => none
  | n + 1 => sm_gather_L31_B (sm_gather_L31 n)
def sm_gather (a_parent : Nat → Int32) (f_objects : Int32) (a_kindOf : Nat → Int32) (a_code : Nat → Int32) (a_number : Nat → Int32) (f_rowCount : Int32) (a_rowKind : Nat → Int32) (a_rowValue : Nat → Int32) (f_many : Int32) (a_list : Nat → Int32) (f_level : Int32) (a_from : Nat → Int32) (a_source : Nat → Int32) : Option (Int32 × Int32 × (Nat → Int32)) :=
  if hq_I f_level 41 = true then
    if 0 ≤ (a_source f_level.toNatClampNeg) then
      (sm_gather_L105 kF (a_source f_level.toNatClampNeg) 0 a_parent f_objects a_kindOf a_code a_number 0 a_list).bind fun u105 =>
        some (f_rowCount, u105.1, u105.2)
    else
      if hq_I (f_level + 1) 41 = true then
        (sm_gather_L31 kF (a_from (f_level + 1).toNatClampNeg) f_rowCount a_rowKind a_rowValue 0 a_list).bind fun u31 =>
          if hq_I (f_level + 1) 41 = true then
            some ((a_from (f_level + 1).toNatClampNeg, u31.1, u31.2))
          else none
      else none
  else none
def sm_rank (l0 : Int32) : Int32 :=
  if 17 < l0 then
    if 20 < l0 then
      if 22 < l0 then
        6
      else
        5
    else
      4
  else
    l0 - 14
def sm_give_J37 (s1 : Int32) (s2 : Int32) (f_values : Int32) (a_vKind : Nat → Int32) (a_v : Nat → Int32) : Option (Int32 × (Nat → Int32) × (Nat → Int32)) :=
  if hq_I s1 41 = true then
    some (f_values + 1, a_vKind, upd a_v s1.toNatClampNeg s2)
  else none
def sm_give (l1 : Int32) (l2 : Int32) (l3 : Int32) (f_values : Int32) (a_vKind : Nat → Int32) (a_v : Nat → Int32) : Option (Int32 × (Nat → Int32) × (Nat → Int32)) :=
  if hq_I (f_values - l3) 41 = true then
    if l1 = 0 then
      sm_give_J37 (f_values - l3) 0 (f_values - l3) (upd a_vKind (f_values - l3).toNatClampNeg l1) a_v
    else
      sm_give_J37 (f_values - l3) l2 (f_values - l3) (upd a_vKind (f_values - l3).toNatClampNeg l1) a_v
  else none
def sm_truth (l1 : Int32) (f_fail : Int32) (f_values : Int32) (a_vKind : Nat → Int32) (a_v : Nat → Int32) : Option (Int32 × Int32 × (Nat → Int32) × (Nat → Int32)) :=
  if hq_I (f_values - 1) 41 = true then
    if (a_vKind (f_values - 1).toNatClampNeg) = 2 then
      some (((-3), f_values, a_vKind, a_v))
    else
      if hq_I (f_values - 1) 41 = true then
        if (a_v (f_values - 1).toNatClampNeg) = 0 then
          (sm_give 1 l1 1 f_values a_vKind a_v).bind fun v46 =>
            some (f_fail, v46.1, v46.2.1, v46.2.2)
        else
          (sm_give 1 (1 - l1) 1 f_values a_vKind a_v).bind fun v46 =>
            some (f_fail, v46.1, v46.2.1, v46.2.2)
      else none
  else none
def sm_pair_J90 (s1 : Int32) (s2 : Int32) (s3 : Int32) (f_fail : Int32) (f_values : Int32) (a_vKind : Nat → Int32) (a_v : Nat → Int32) : Option (Int32 × Int32 × (Nat → Int32) × (Nat → Int32)) :=
  if s2 = s3 then
    (sm_give s1 1 2 f_values a_vKind a_v).bind fun v99 =>
      some (f_fail, v99.1, v99.2.1, v99.2.2)
  else
    (sm_give s1 0 2 f_values a_vKind a_v).bind fun v99 =>
      some (f_fail, v99.1, v99.2.1, v99.2.2)
def sm_pair_J73 (l1 : Int32) (s0 : Int32) (f_fail : Int32) (f_values : Int32) (a_vKind : Nat → Int32) (a_v : Nat → Int32) : Option (Int32 × Int32 × (Nat → Int32) × (Nat → Int32)) :=
  if l1 = 18 then
    sm_pair_J90 1 s0 1 f_fail f_values a_vKind a_v
  else
    sm_pair_J90 1 s0 0 f_fail f_values a_vKind a_v
def sm_pair_J72 (l1 : Int32) (f_fail : Int32) (f_values : Int32) (a_vKind : Nat → Int32) (a_v : Nat → Int32) : Option (Int32 × Int32 × (Nat → Int32) × (Nat → Int32)) :=
  sm_pair_J73 l1 0 f_fail f_values a_vKind a_v
def sm_pair (l1 : Int32) (f_fail : Int32) (f_values : Int32) (a_vKind : Nat → Int32) (a_v : Nat → Int32) : Option (Int32 × Int32 × (Nat → Int32) × (Nat → Int32)) :=
  if hq_I (f_values - 2) 41 = true then
    if hq_I (f_values - 1) 41 = true then
      if hq_I (f_values - 2) 41 = true then
        if hq_I (f_values - 1) 41 = true then
          if 19 < l1 then
            if (a_vKind (f_values - 2).toNatClampNeg) = 2 then
              some (((-3), f_values, a_vKind, a_v))
            else
              if (a_vKind (f_values - 1).toNatClampNeg) = 2 then
                some (((-3), f_values, a_vKind, a_v))
              else
                if l1 = 20 then
                  if (a_vKind (f_values - 2).toNatClampNeg) = 1 then
                    if (a_vKind (f_values - 1).toNatClampNeg) = 1 then
                      if (a_v (f_values - 1).toNatClampNeg) ≤ (a_v (f_values - 2).toNatClampNeg) then
                        (sm_give 1 0 2 f_values a_vKind a_v).bind fun v155 =>
                          some (f_fail, v155.1, v155.2.1, v155.2.2)
                      else
                        (sm_give 1 1 2 f_values a_vKind a_v).bind fun v155 =>
                          some (f_fail, v155.1, v155.2.1, v155.2.2)
                    else
                      (sm_give 1 0 2 f_values a_vKind a_v).bind fun v155 =>
                        some (f_fail, v155.1, v155.2.1, v155.2.2)
                  else
                    (sm_give 1 0 2 f_values a_vKind a_v).bind fun v155 =>
                      some (f_fail, v155.1, v155.2.1, v155.2.2)
                else
                  if l1 = 21 then
                    (sm_give ((a_vKind (f_values - 2).toNatClampNeg) * (a_vKind (f_values - 1).toNatClampNeg)) ((a_v (f_values - 2).toNatClampNeg) + (a_v (f_values - 1).toNatClampNeg)) 2 f_values a_vKind a_v).bind fun v199 =>
                      some (f_fail, v199.1, v199.2.1, v199.2.2)
                  else
                    if l1 = 22 then
                      (sm_give ((a_vKind (f_values - 2).toNatClampNeg) * (a_vKind (f_values - 1).toNatClampNeg)) ((a_v (f_values - 2).toNatClampNeg) - (a_v (f_values - 1).toNatClampNeg)) 2 f_values a_vKind a_v).bind fun v199 =>
                        some (f_fail, v199.1, v199.2.1, v199.2.2)
                    else
                      (sm_give ((a_vKind (f_values - 2).toNatClampNeg) * (a_vKind (f_values - 1).toNatClampNeg)) ((a_v (f_values - 2).toNatClampNeg) * (a_v (f_values - 1).toNatClampNeg)) 2 f_values a_vKind a_v).bind fun v199 =>
                        some (f_fail, v199.1, v199.2.1, v199.2.2)
          else
            if (a_vKind (f_values - 2).toNatClampNeg) = (a_vKind (f_values - 1).toNatClampNeg) then
              if (a_v (f_values - 2).toNatClampNeg) = (a_v (f_values - 1).toNatClampNeg) then
                sm_pair_J73 l1 1 f_fail f_values a_vKind a_v
              else
                sm_pair_J72 l1 f_fail f_values a_vKind a_v
            else
              sm_pair_J72 l1 f_fail f_values a_vKind a_v
        else none
      else none
    else none
  else none
def sm_apply_L0_B (rec : Int32 → Int32 → Int32 → (Nat → Int32) → (Nat → Int32) → Int32 → (Nat → Int32) → Option (Int32 × Int32 × (Nat → Int32) × (Nat → Int32) × Int32)) (l1 : Int32) (f_fail : Int32) (f_values : Int32) (a_vKind : Nat → Int32) (a_v : Nat → Int32) (f_waiting : Int32) (a_waits : Nat → Int32) : Option (Int32 × Int32 × (Nat → Int32) × (Nat → Int32) × Int32) :=
  if f_waiting ≤ 0 then
    some (f_fail, f_values, a_vKind, a_v, f_waiting)
  else
    if f_fail = 0 then
      if hq_I (f_waiting - 1) 41 = true then
        if (a_waits (f_waiting - 1).toNatClampNeg) = 6 then
          some (f_fail, f_values, a_vKind, a_v, f_waiting)
        else
          if hq_I (f_waiting - 1) 41 = true then
            if ((sm_rank (a_waits (f_waiting - 1).toNatClampNeg))) < l1 then
              some (f_fail, f_values, a_vKind, a_v, f_waiting)
            else
              if hq_I (f_waiting - 1) 41 = true then
                if 17 < (a_waits (f_waiting - 1).toNatClampNeg) then
                  (sm_pair (a_waits (f_waiting - 1).toNatClampNeg) f_fail f_values a_vKind a_v).bind fun v94 =>
                    rec l1 v94.1 v94.2.1 v94.2.2.1 v94.2.2.2 (f_waiting - 1) a_waits
                else
                  if (a_waits (f_waiting - 1).toNatClampNeg) = 17 then
                    (sm_truth 1 f_fail f_values a_vKind a_v).bind fun v86 =>
                      rec l1 v86.1 v86.2.1 v86.2.2.1 v86.2.2.2 (f_waiting - 1) a_waits
                  else
                    (sm_truth 0 f_fail f_values a_vKind a_v).bind fun v86 =>
                      rec l1 v86.1 v86.2.1 v86.2.2.1 v86.2.2.2 (f_waiting - 1) a_waits
              else none
          else none
      else none
    else
      some (f_fail, f_values, a_vKind, a_v, f_waiting)
def sm_apply_L0 : Nat → Int32 → Int32 → Int32 → (Nat → Int32) → (Nat → Int32) → Int32 → (Nat → Int32) → Option (Int32 × Int32 × (Nat → Int32) × (Nat → Int32) × Int32)
  | 0 => fun _ _ _ _ _ _ _ => none
  | n + 1 => sm_apply_L0_B (sm_apply_L0 n)
def sm_apply (l1 : Int32) (f_fail : Int32) (f_values : Int32) (a_vKind : Nat → Int32) (a_v : Nat → Int32) (f_waiting : Int32) (a_waits : Nat → Int32) : Option (Int32 × Int32 × (Nat → Int32) × (Nat → Int32) × Int32) :=
  if f_waiting ≤ 0 then
    some (f_fail, f_values, a_vKind, a_v, f_waiting)
  else
    if f_fail = 0 then
      if hq_I (f_waiting - 1) 41 = true then
        if (a_waits (f_waiting - 1).toNatClampNeg) = 6 then
          some (f_fail, f_values, a_vKind, a_v, f_waiting)
        else
          if hq_I (f_waiting - 1) 41 = true then
            if ((sm_rank (a_waits (f_waiting - 1).toNatClampNeg))) < l1 then
              some (f_fail, f_values, a_vKind, a_v, f_waiting)
            else
              if hq_I (f_waiting - 1) 41 = true then
                if 17 < (a_waits (f_waiting - 1).toNatClampNeg) then
                  (sm_pair (a_waits (f_waiting - 1).toNatClampNeg) f_fail f_values a_vKind a_v).bind fun v94 =>
                    (sm_apply_L0 kF l1 v94.1 v94.2.1 v94.2.2.1 v94.2.2.2 (f_waiting - 1) a_waits).bind fun u0 =>
                      some (u0.1, u0.2.1, u0.2.2.1, u0.2.2.2.1, u0.2.2.2.2)
                else
                  if (a_waits (f_waiting - 1).toNatClampNeg) = 17 then
                    (sm_truth 1 f_fail f_values a_vKind a_v).bind fun v86 =>
                      (sm_apply_L0 kF l1 v86.1 v86.2.1 v86.2.2.1 v86.2.2.2 (f_waiting - 1) a_waits).bind fun u0 =>
                        some (u0.1, u0.2.1, u0.2.2.1, u0.2.2.2.1, u0.2.2.2.2)
                  else
                    (sm_truth 0 f_fail f_values a_vKind a_v).bind fun v86 =>
                      (sm_apply_L0 kF l1 v86.1 v86.2.1 v86.2.2.1 v86.2.2.2 (f_waiting - 1) a_waits).bind fun u0 =>
                        some (u0.1, u0.2.1, u0.2.2.1, u0.2.2.2.1, u0.2.2.2.2)
              else none
          else none
      else none
    else
      some (f_fail, f_values, a_vKind, a_v, f_waiting)
def sm_along_L122_B (rec : Int32 → Int32 → Int32 → Int32 → (Nat → Int32) → (Nat → Int32) → Option (Int32)) (l4 : Int32) (l5 : Int32) (l6 : Int32) (f_objects : Int32) (a_slotKind : Nat → Int32) (a_slot : Nat → Int32) : Option (Int32) :=
  if (4 * f_objects) ≤ l6 then
    some l5
  else
    if hq_I l6 96 = true then
      if (a_slotKind l6.toNatClampNeg) = 2 then
        if hq_I l6 96 = true then
          if (a_slot l6.toNatClampNeg) = l4 then
            rec l4 (l5 + 1) (l6 + 1) f_objects a_slotKind a_slot
          else
            rec l4 l5 (l6 + 1) f_objects a_slotKind a_slot
        else none
      else
        rec l4 l5 (l6 + 1) f_objects a_slotKind a_slot
    else none
def sm_along_L122 : Nat → Int32 → Int32 → Int32 → Int32 → (Nat → Int32) → (Nat → Int32) → Option (Int32)
  | 0 => fun _ _ _ _ _ _ => none
  | n + 1 => sm_along_L122_B (sm_along_L122 n)
def sm_along_J36 (l1 : Int32) (l2 : Int32) (l3 : Int32) (l4 : Int32) (f_objects : Int32) (a_kindOf : Nat → Int32) (a_size : Nat → Int32) (a_slotKind : Nat → Int32) (a_slot : Nat → Int32) (a_kept : Nat → Int32) (f_fail : Int32) (f_values : Int32) (a_vKind : Nat → Int32) (a_v : Nat → Int32) : Option (Int32 × Int32 × (Nat → Int32) × (Nat → Int32)) :=
  if l3 = 2 then
    if l1 = 13 then
      if hq_I ((4 * l4) + l2) 96 = true then
        if hq_I ((4 * l4) + l2) 96 = true then
          (sm_give (a_slotKind ((4 * l4) + l2).toNatClampNeg) (a_slot ((4 * l4) + l2).toNatClampNeg) 1 f_values a_vKind a_v).bind fun v72 =>
            some (f_fail, v72.1, v72.2.1, v72.2.2)
        else none
      else none
    else
      if l2 = 4 then
        (sm_immediate l4 f_objects a_kept).bind fun v86 =>
          if 0 ≤ v86 then
            (sm_give 2 v86 1 f_values a_vKind a_v).bind fun v105 =>
              some (f_fail, v105.1, v105.2.1, v105.2.2)
          else
            (sm_give 0 v86 1 f_values a_vKind a_v).bind fun v105 =>
              some (f_fail, v105.1, v105.2.1, v105.2.2)
      else
        if l2 = 5 then
          (sm_along_L122 kF l4 0 0 f_objects a_slotKind a_slot).bind fun u122 =>
            (sm_give 1 u122 1 f_values a_vKind a_v).bind fun v178 =>
              some (f_fail, v178.1, v178.2.1, v178.2.2)
        else
          if l2 = 0 then
            (sm_give 1 l4 1 f_values a_vKind a_v).bind fun v237 =>
              some (f_fail, v237.1, v237.2.1, v237.2.2)
          else
            if l2 = 1 then
              if hq_I l4 24 = true then
                (sm_give 1 (a_kindOf l4.toNatClampNeg) 1 f_values a_vKind a_v).bind fun v237 =>
                  some (f_fail, v237.1, v237.2.1, v237.2.2)
              else none
            else
              if l2 = 2 then
                if hq_I l4 24 = true then
                  (sm_give 1 (a_size l4.toNatClampNeg) 1 f_values a_vKind a_v).bind fun v237 =>
                    some (f_fail, v237.1, v237.2.1, v237.2.2)
                else none
              else
                if hq_I l4 24 = true then
                  (sm_sum (a_kept l4.toNatClampNeg) f_objects a_size).bind fun v233 =>
                    (sm_give 1 v233 1 f_values a_vKind a_v).bind fun v237 =>
                      some (f_fail, v237.1, v237.2.1, v237.2.2)
                else none
  else
    some (f_fail, f_values, a_vKind, a_v)
def sm_along (l1 : Int32) (l2 : Int32) (f_objects : Int32) (a_kindOf : Nat → Int32) (a_size : Nat → Int32) (a_slotKind : Nat → Int32) (a_slot : Nat → Int32) (a_kept : Nat → Int32) (f_fail : Int32) (f_values : Int32) (a_vKind : Nat → Int32) (a_v : Nat → Int32) : Option (Int32 × Int32 × (Nat → Int32) × (Nat → Int32)) :=
  if hq_I (f_values - 1) 41 = true then
    if hq_I (f_values - 1) 41 = true then
      if (a_vKind (f_values - 1).toNatClampNeg) = 1 then
        sm_along_J36 l1 l2 (a_vKind (f_values - 1).toNatClampNeg) (a_v (f_values - 1).toNatClampNeg) f_objects a_kindOf a_size a_slotKind a_slot a_kept (-2) f_values a_vKind a_v
      else
        sm_along_J36 l1 l2 (a_vKind (f_values - 1).toNatClampNeg) (a_v (f_values - 1).toNatClampNeg) f_objects a_kindOf a_size a_slotKind a_slot a_kept f_fail f_values a_vKind a_v
    else none
  else none
def sm_hold (l1 : Int32) (f_waiting : Int32) (a_waits : Nat → Int32) : Option (Int32 × (Nat → Int32)) :=
  if hq_I f_waiting 41 = true then
    some (f_waiting + 1, upd a_waits f_waiting.toNatClampNeg l1)
  else none
def sm_stops (l0 : Int32) (l1 : Int32) : Int32 :=
  if l0 = 3 then
    1
  else
    if l0 = 5 then
      1
    else
      if l0 = 7 then
        1
      else
        if l0 = 24 then
          1
        else
          if l0 = 15 then
            1
          else
            if l0 = 16 then
              if l1 = 16 then
                1
              else
                0
            else
              0
def sm_branch_J185 (rec : Int32 → Int32 → Int32 → (Nat → Int32) → Int32 → Option (Int32)) (l1 : Int32) (s0 : Int32) (f_count : Int32) (a_code : Nat → Int32) (f_at : Int32) : Option (Int32) :=
  rec l1 s0 f_count a_code (f_at + 1)
def sm_branch_J144 (rec : Int32 → Int32 → Int32 → (Nat → Int32) → Int32 → Option (Int32)) (l1 : Int32) (l3 : Int32) (f_count : Int32) (a_code : Nat → Int32) (f_at : Int32) : Option (Int32) :=
  if hq_I f_at 40 = true then
    if (a_code f_at.toNatClampNeg) = 6 then
      sm_branch_J185 rec l1 (l3 + 1) f_count a_code f_at
    else
      if hq_I f_at 40 = true then
        if (a_code f_at.toNatClampNeg) = 7 then
          sm_branch_J185 rec l1 (l3 - 1) f_count a_code f_at
        else
          sm_branch_J185 rec l1 l3 f_count a_code f_at
      else none
  else none
def sm_branch_L113_B (rec : Int32 → Int32 → Int32 → (Nat → Int32) → Int32 → Option (Int32)) (l1 : Int32) (l3 : Int32) (f_count : Int32) (a_code : Nat → Int32) (f_at : Int32) : Option (Int32) :=
  if f_count ≤ f_at then
    some f_at
  else
    if 0 < l3 then
      sm_branch_J144 rec l1 l3 f_count a_code f_at
    else
      if hq_I f_at 40 = true then
        if ((sm_stops (a_code f_at.toNatClampNeg) l1)) = 0 then
          sm_branch_J144 rec l1 l3 f_count a_code f_at
        else
          some f_at
      else none
def sm_branch_L113 : Nat → Int32 → Int32 → Int32 → (Nat → Int32) → Int32 → Option (Int32)
  | 0 => fun _ _ _ _ _ => none
  | n + 1 => sm_branch_L113_B (sm_branch_L113 n)
def sm_branch_J77 (l1 : Int32) (l2 : Int32) (s0 : Int32) (s1 : Int32) (f_count : Int32) (a_code : Nat → Int32) (f_fail : Int32) (f_at : Int32) (f_values : Int32) (a_vKind : Nat → Int32) (a_v : Nat → Int32) (f_waiting : Int32) (a_waits : Nat → Int32) : Option (Int32 × Int32 × Int32 × (Nat → Int32) × (Nat → Int32) × Int32 × (Nat → Int32)) :=
  if s0 = s1 then
    (sm_hold l1 f_waiting a_waits).bind fun v92 =>
      some (f_fail, f_at, f_values - 1, a_vKind, a_v, v92.1, v92.2)
  else
    if l2 = 0 then
      (sm_give 1 0 1 f_values a_vKind a_v).bind fun v108 =>
        (sm_branch_L113 kF l1 0 f_count a_code f_at).bind fun u113 =>
          some (f_fail, u113, v108.1, v108.2.1, v108.2.2, f_waiting, a_waits)
    else
      (sm_give 1 1 1 f_values a_vKind a_v).bind fun v108 =>
        (sm_branch_L113 kF l1 0 f_count a_code f_at).bind fun u113 =>
          some (f_fail, u113, v108.1, v108.2.1, v108.2.2, f_waiting, a_waits)
def sm_branch_J64 (l1 : Int32) (s0 : Int32) (f_count : Int32) (a_code : Nat → Int32) (f_fail : Int32) (f_at : Int32) (f_values : Int32) (a_vKind : Nat → Int32) (a_v : Nat → Int32) (f_waiting : Int32) (a_waits : Nat → Int32) : Option (Int32 × Int32 × Int32 × (Nat → Int32) × (Nat → Int32) × Int32 × (Nat → Int32)) :=
  if l1 = 16 then
    sm_branch_J77 l1 s0 s0 1 f_count a_code f_fail f_at f_values a_vKind a_v f_waiting a_waits
  else
    sm_branch_J77 l1 s0 s0 0 f_count a_code f_fail f_at f_values a_vKind a_v f_waiting a_waits
def sm_branch_J12 (l1 : Int32) (s1 : Int32) (f_count : Int32) (a_code : Nat → Int32) (f_fail : Int32) (f_at : Int32) (f_values : Int32) (a_vKind : Nat → Int32) (a_v : Nat → Int32) (f_waiting : Int32) (a_waits : Nat → Int32) : Option (Int32 × Int32 × Int32 × (Nat → Int32) × (Nat → Int32) × Int32 × (Nat → Int32)) :=
  (sm_apply s1 f_fail f_values a_vKind a_v f_waiting a_waits).bind fun v12 =>
    if v12.1 = 0 then
      if hq_I (v12.2.1 - 1) 41 = true then
        if (v12.2.2.1 (v12.2.1 - 1).toNatClampNeg) = 2 then
          some (((-3), f_at, v12.2.1, v12.2.2.1, v12.2.2.2.1, v12.2.2.2.2, a_waits))
        else
          if hq_I (v12.2.1 - 1) 41 = true then
            if (v12.2.2.2.1 (v12.2.1 - 1).toNatClampNeg) = 0 then
              sm_branch_J64 l1 0 f_count a_code v12.1 f_at v12.2.1 v12.2.2.1 v12.2.2.2.1 v12.2.2.2.2 a_waits
            else
              sm_branch_J64 l1 1 f_count a_code v12.1 f_at v12.2.1 v12.2.2.1 v12.2.2.2.1 v12.2.2.2.2 a_waits
          else none
      else none
    else
      some (v12.1, f_at, v12.2.1, v12.2.2.1, v12.2.2.2.1, v12.2.2.2.2, a_waits)
def sm_branch (l1 : Int32) (f_count : Int32) (a_code : Nat → Int32) (f_fail : Int32) (f_at : Int32) (f_values : Int32) (a_vKind : Nat → Int32) (a_v : Nat → Int32) (f_waiting : Int32) (a_waits : Nat → Int32) : Option (Int32 × Int32 × Int32 × (Nat → Int32) × (Nat → Int32) × Int32 × (Nat → Int32)) :=
  if l1 = 16 then
    sm_branch_J12 l1 2 f_count a_code f_fail f_at f_values a_vKind a_v f_waiting a_waits
  else
    sm_branch_J12 l1 1 f_count a_code f_fail f_at f_values a_vKind a_v f_waiting a_waits
def sm_take_J196 (l1 : Int32) (f_objects : Int32) (a_kindOf : Nat → Int32) (a_size : Nat → Int32) (a_slotKind : Nat → Int32) (a_slot : Nat → Int32) (a_kept : Nat → Int32) (f_count : Int32) (a_code : Nat → Int32) (f_fail : Int32) (f_at : Int32) (f_self : Int32) (f_brackets : Int32) (f_values : Int32) (a_vKind : Nat → Int32) (a_v : Nat → Int32) (f_waiting : Int32) (a_waits : Nat → Int32) : Option (Int32 × Int32 × Int32 × Int32 × Int32 × (Nat → Int32) × (Nat → Int32) × Int32 × (Nat → Int32)) :=
  (sm_branch l1 f_count a_code f_fail f_at f_values a_vKind a_v f_waiting a_waits).bind fun v198 =>
    some (1, v198.1, v198.2.1, f_brackets, v198.2.2.1, v198.2.2.2.1, v198.2.2.2.2.1, v198.2.2.2.2.2.1, v198.2.2.2.2.2.2)
def sm_take_J103 (l1 : Int32) (l2 : Int32) (f_objects : Int32) (a_kindOf : Nat → Int32) (a_size : Nat → Int32) (a_slotKind : Nat → Int32) (a_slot : Nat → Int32) (a_kept : Nat → Int32) (f_count : Int32) (a_code : Nat → Int32) (f_fail : Int32) (f_at : Int32) (f_self : Int32) (f_brackets : Int32) (f_values : Int32) (a_vKind : Nat → Int32) (a_v : Nat → Int32) (f_waiting : Int32) (a_waits : Nat → Int32) : Option (Int32 × Int32 × Int32 × Int32 × Int32 × (Nat → Int32) × (Nat → Int32) × Int32 × (Nat → Int32)) :=
  (sm_along l1 l2 f_objects a_kindOf a_size a_slotKind a_slot a_kept f_fail f_values a_vKind a_v).bind fun v106 =>
    some (1, v106.1, f_at, f_brackets, v106.2.1, v106.2.2.1, v106.2.2.2, f_waiting, a_waits)
def sm_take_J91 (l1 : Int32) (l2 : Int32) (f_objects : Int32) (a_kindOf : Nat → Int32) (a_size : Nat → Int32) (a_slotKind : Nat → Int32) (a_slot : Nat → Int32) (a_kept : Nat → Int32) (f_count : Int32) (a_code : Nat → Int32) (f_fail : Int32) (f_at : Int32) (f_self : Int32) (f_brackets : Int32) (f_values : Int32) (a_vKind : Nat → Int32) (a_v : Nat → Int32) (f_waiting : Int32) (a_waits : Nat → Int32) : Option (Int32 × Int32 × Int32 × Int32 × Int32 × (Nat → Int32) × (Nat → Int32) × Int32 × (Nat → Int32)) :=
  if l1 = 13 then
    sm_take_J103 l1 l2 f_objects a_kindOf a_size a_slotKind a_slot a_kept f_count a_code f_fail f_at f_self f_brackets f_values a_vKind a_v f_waiting a_waits
  else
    if l1 = 14 then
      sm_take_J103 l1 l2 f_objects a_kindOf a_size a_slotKind a_slot a_kept f_count a_code f_fail f_at f_self f_brackets f_values a_vKind a_v f_waiting a_waits
    else
      if l1 = 6 then
        (sm_hold l1 f_waiting a_waits).bind fun v130 =>
          some (1, f_fail, f_at, f_brackets + 1, f_values, a_vKind, a_v, v130.1, v130.2)
      else
        if l1 = 7 then
          (sm_apply 0 f_fail f_values a_vKind a_v f_waiting a_waits).bind fun v144 =>
            some (1, v144.1, f_at, f_brackets - 1, v144.2.1, v144.2.2.1, v144.2.2.2.1, v144.2.2.2.2 - 1, a_waits)
        else
          if l1 = 17 then
            (sm_hold l1 f_waiting a_waits).bind fun v178 =>
              some (1, f_fail, f_at, f_brackets, f_values, a_vKind, a_v, v178.1, v178.2)
          else
            if l1 = 15 then
              sm_take_J196 l1 f_objects a_kindOf a_size a_slotKind a_slot a_kept f_count a_code f_fail f_at f_self f_brackets f_values a_vKind a_v f_waiting a_waits
            else
              if l1 = 16 then
                sm_take_J196 l1 f_objects a_kindOf a_size a_slotKind a_slot a_kept f_count a_code f_fail f_at f_self f_brackets f_values a_vKind a_v f_waiting a_waits
              else
                (sm_apply (sm_rank l1) f_fail f_values a_vKind a_v f_waiting a_waits).bind fun v209 =>
                  (sm_hold l1 v209.2.2.2.2 a_waits).bind fun v214 =>
                    some (1, v209.1, f_at, f_brackets, v209.2.1, v209.2.2.1, v209.2.2.2.1, v214.1, v214.2)
def sm_take_J70 (l1 : Int32) (l2 : Int32) (s1 : Int32) (f_objects : Int32) (a_kindOf : Nat → Int32) (a_size : Nat → Int32) (a_slotKind : Nat → Int32) (a_slot : Nat → Int32) (a_kept : Nat → Int32) (f_count : Int32) (a_code : Nat → Int32) (f_fail : Int32) (f_at : Int32) (f_self : Int32) (f_brackets : Int32) (f_values : Int32) (a_vKind : Nat → Int32) (a_v : Nat → Int32) (f_waiting : Int32) (a_waits : Nat → Int32) : Option (Int32 × Int32 × Int32 × Int32 × Int32 × (Nat → Int32) × (Nat → Int32) × Int32 × (Nat → Int32)) :=
  if l1 = 10 then
    (sm_give s1 l2 0 f_values a_vKind a_v).bind fun v85 =>
      some (1, f_fail, f_at, f_brackets, v85.1, v85.2.1, v85.2.2, f_waiting, a_waits)
  else
    (sm_give s1 f_self 0 f_values a_vKind a_v).bind fun v85 =>
      some (1, f_fail, f_at, f_brackets, v85.1, v85.2.1, v85.2.2, f_waiting, a_waits)
def sm_take_J36 (l1 : Int32) (l2 : Int32) (f_objects : Int32) (a_kindOf : Nat → Int32) (a_size : Nat → Int32) (a_slotKind : Nat → Int32) (a_slot : Nat → Int32) (a_kept : Nat → Int32) (f_count : Int32) (a_code : Nat → Int32) (f_fail : Int32) (f_at : Int32) (f_self : Int32) (f_brackets : Int32) (f_values : Int32) (a_vKind : Nat → Int32) (a_v : Nat → Int32) (f_waiting : Int32) (a_waits : Nat → Int32) : Option (Int32 × Int32 × Int32 × Int32 × Int32 × (Nat → Int32) × (Nat → Int32) × Int32 × (Nat → Int32)) :=
  if l1 < 10 then
    sm_take_J91 l1 l2 f_objects a_kindOf a_size a_slotKind a_slot a_kept f_count a_code f_fail f_at f_self f_brackets f_values a_vKind a_v f_waiting a_waits
  else
    if 12 < l1 then
      sm_take_J91 l1 l2 f_objects a_kindOf a_size a_slotKind a_slot a_kept f_count a_code f_fail f_at f_self f_brackets f_values a_vKind a_v f_waiting a_waits
    else
      if l1 = 10 then
        sm_take_J70 l1 l2 1 f_objects a_kindOf a_size a_slotKind a_slot a_kept f_count a_code f_fail f_at f_self f_brackets f_values a_vKind a_v f_waiting a_waits
      else
        if l1 = 11 then
          sm_take_J70 l1 l2 0 f_objects a_kindOf a_size a_slotKind a_slot a_kept f_count a_code f_fail f_at f_self f_brackets f_values a_vKind a_v f_waiting a_waits
        else
          sm_take_J70 l1 l2 2 f_objects a_kindOf a_size a_slotKind a_slot a_kept f_count a_code f_fail f_at f_self f_brackets f_values a_vKind a_v f_waiting a_waits
def sm_take (l1 : Int32) (l2 : Int32) (f_objects : Int32) (a_kindOf : Nat → Int32) (a_size : Nat → Int32) (a_slotKind : Nat → Int32) (a_slot : Nat → Int32) (a_kept : Nat → Int32) (f_count : Int32) (a_code : Nat → Int32) (f_fail : Int32) (f_at : Int32) (f_self : Int32) (f_brackets : Int32) (f_values : Int32) (a_vKind : Nat → Int32) (a_v : Nat → Int32) (f_waiting : Int32) (a_waits : Nat → Int32) : Option (Int32 × Int32 × Int32 × Int32 × Int32 × (Nat → Int32) × (Nat → Int32) × Int32 × (Nat → Int32)) :=
  if l1 = 3 then
    (sm_apply 0 f_fail f_values a_vKind a_v f_waiting a_waits).bind fun v31 =>
      some (0, v31.1, f_at, f_brackets, v31.2.1, v31.2.2.1, v31.2.2.2.1, v31.2.2.2.2, a_waits)
  else
    if l1 = 5 then
      (sm_apply 0 f_fail f_values a_vKind a_v f_waiting a_waits).bind fun v31 =>
        some (0, v31.1, f_at, f_brackets, v31.2.1, v31.2.2.1, v31.2.2.2.1, v31.2.2.2.2, a_waits)
    else
      if l1 = 24 then
        (sm_apply 0 f_fail f_values a_vKind a_v f_waiting a_waits).bind fun v31 =>
          some (0, v31.1, f_at, f_brackets, v31.2.1, v31.2.2.1, v31.2.2.2.1, v31.2.2.2.2, a_waits)
      else
        if l1 = 7 then
          if f_brackets = 0 then
            (sm_apply 0 f_fail f_values a_vKind a_v f_waiting a_waits).bind fun v31 =>
              some (0, v31.1, f_at, f_brackets, v31.2.1, v31.2.2.1, v31.2.2.2.1, v31.2.2.2.2, a_waits)
          else
            sm_take_J36 l1 l2 f_objects a_kindOf a_size a_slotKind a_slot a_kept f_count a_code f_fail f_at f_self f_brackets f_values a_vKind a_v f_waiting a_waits
        else
          sm_take_J36 l1 l2 f_objects a_kindOf a_size a_slotKind a_slot a_kept f_count a_code f_fail f_at f_self f_brackets f_values a_vKind a_v f_waiting a_waits
def sm_work_L27_B (rec : Int32 → Int32 → (Nat → Int32) → (Nat → Int32) → (Nat → Int32) → (Nat → Int32) → (Nat → Int32) → Int32 → (Nat → Int32) → (Nat → Int32) → Int32 → Int32 → Int32 → Int32 → Int32 → (Nat → Int32) → (Nat → Int32) → Int32 → (Nat → Int32) → Option (Int32 × Int32 × Int32 × Int32 × (Nat → Int32) × (Nat → Int32) × Int32 × (Nat → Int32))) (l3 : Int32) (f_objects : Int32) (a_kindOf : Nat → Int32) (a_size : Nat → Int32) (a_slotKind : Nat → Int32) (a_slot : Nat → Int32) (a_kept : Nat → Int32) (f_count : Int32) (a_code : Nat → Int32) (a_number : Nat → Int32) (f_fail : Int32) (f_at : Int32) (f_self : Int32) (f_brackets : Int32) (f_values : Int32) (a_vKind : Nat → Int32) (a_v : Nat → Int32) (f_waiting : Int32) (a_waits : Nat → Int32) : Option (Int32 × Int32 × Int32 × Int32 × (Nat → Int32) × (Nat → Int32) × Int32 × (Nat → Int32)) :=
  if l3 = 0 then
    some (f_fail, f_at, f_brackets, f_values, a_vKind, a_v, f_waiting, a_waits)
  else
    if f_fail = 0 then
      if f_count ≤ f_at then
        some (f_fail, f_at, f_brackets, f_values, a_vKind, a_v, f_waiting, a_waits)
      else
        if hq_I ((f_at + 1) - 1) 40 = true then
          if hq_I ((f_at + 1) - 1) 40 = true then
            (sm_take (a_code ((f_at + 1) - 1).toNatClampNeg) (a_number ((f_at + 1) - 1).toNatClampNeg) f_objects a_kindOf a_size a_slotKind a_slot a_kept f_count a_code f_fail (f_at + 1) f_self f_brackets f_values a_vKind a_v f_waiting a_waits).bind fun v82 =>
              rec v82.1 f_objects a_kindOf a_size a_slotKind a_slot a_kept f_count a_code a_number v82.2.1 v82.2.2.1 f_self v82.2.2.2.1 v82.2.2.2.2.1 v82.2.2.2.2.2.1 v82.2.2.2.2.2.2.1 v82.2.2.2.2.2.2.2.1 v82.2.2.2.2.2.2.2.2
          else none
        else none
    else
      some (f_fail, f_at, f_brackets, f_values, a_vKind, a_v, f_waiting, a_waits)
def sm_work_L27 : Nat → Int32 → Int32 → (Nat → Int32) → (Nat → Int32) → (Nat → Int32) → (Nat → Int32) → (Nat → Int32) → Int32 → (Nat → Int32) → (Nat → Int32) → Int32 → Int32 → Int32 → Int32 → Int32 → (Nat → Int32) → (Nat → Int32) → Int32 → (Nat → Int32) → Option (Int32 × Int32 × Int32 × Int32 × (Nat → Int32) × (Nat → Int32) × Int32 × (Nat → Int32))
  | 0 => fun _ _ _ _ _ _ _ _ _ _ _ _ _ _ _ _ _ _ _ => none
  | n + 1 => sm_work_L27_B (sm_work_L27 n)
def sm_work (l1 : Int32) (l2 : Int32) (f_objects : Int32) (a_kindOf : Nat → Int32) (a_size : Nat → Int32) (a_slotKind : Nat → Int32) (a_slot : Nat → Int32) (a_kept : Nat → Int32) (f_count : Int32) (a_code : Nat → Int32) (a_number : Nat → Int32) (f_fail : Int32) (f_at : Int32) (f_self : Int32) (f_brackets : Int32) (f_values : Int32) (a_vKind : Nat → Int32) (a_v : Nat → Int32) (f_waiting : Int32) (a_waits : Nat → Int32) : Option (Int32 × Int32 × Int32 × Int32 × Int32 × (Nat → Int32) × (Nat → Int32) × Int32 × (Nat → Int32)) :=
  (sm_work_L27 kF 1 f_objects a_kindOf a_size a_slotKind a_slot a_kept f_count a_code a_number f_fail l1 l2 0 0 a_vKind a_v 0 a_waits).bind fun u27 =>
    some (u27.1, u27.2.1, l2, u27.2.2.1, u27.2.2.2.1, u27.2.2.2.2.1, u27.2.2.2.2.2.1, u27.2.2.2.2.2.2.1, u27.2.2.2.2.2.2.2)
def sm_look_J83 (l1 : Int32) (f_objects : Int32) (a_kindOf : Nat → Int32) (a_size : Nat → Int32) (a_slotKind : Nat → Int32) (a_slot : Nat → Int32) (a_kept : Nat → Int32) (f_count : Int32) (a_code : Nat → Int32) (a_number : Nat → Int32) (f_rowCount : Int32) (a_rowKind : Nat → Int32) (a_rowValue : Nat → Int32) (f_seen : Int32) (f_fail : Int32) (f_level : Int32) (a_eAt : Nat → Int32) (a_whereAt : Nat → Int32) (f_at : Int32) (f_self : Int32) (f_brackets : Int32) (f_values : Int32) (a_vKind : Nat → Int32) (a_v : Nat → Int32) (f_waiting : Int32) (a_waits : Nat → Int32) : Option (Int32 × (Nat → Int32) × (Nat → Int32) × Int32 × Int32 × Int32 × Int32 × Int32 × Int32 × (Nat → Int32) × (Nat → Int32) × Int32 × (Nat → Int32)) :=
  if hq_I f_level 41 = true then
    (sm_work (a_eAt f_level.toNatClampNeg) l1 f_objects a_kindOf a_size a_slotKind a_slot a_kept f_count a_code a_number f_fail f_at f_self f_brackets f_values a_vKind a_v f_waiting a_waits).bind fun v94 =>
      if hq_I 0 41 = true then
        if hq_I f_rowCount 200 = true then
          if hq_I 0 41 = true then
            if hq_I f_rowCount 200 = true then
              some ((f_rowCount + 1, upd a_rowKind f_rowCount.toNatClampNeg (v94.2.2.2.2.2.1 (0 : Int32).toNatClampNeg), upd a_rowValue f_rowCount.toNatClampNeg (v94.2.2.2.2.2.2.1 (0 : Int32).toNatClampNeg), f_seen, v94.1, v94.2.1, v94.2.2.1, v94.2.2.2.1, v94.2.2.2.2.1, v94.2.2.2.2.2.1, v94.2.2.2.2.2.2.1, v94.2.2.2.2.2.2.2.1, v94.2.2.2.2.2.2.2.2))
            else none
          else none
        else none
      else none
  else none
def sm_look_J63 (l1 : Int32) (s1 : Int32) (f_objects : Int32) (a_kindOf : Nat → Int32) (a_size : Nat → Int32) (a_slotKind : Nat → Int32) (a_slot : Nat → Int32) (a_kept : Nat → Int32) (f_count : Int32) (a_code : Nat → Int32) (a_number : Nat → Int32) (f_rowCount : Int32) (a_rowKind : Nat → Int32) (a_rowValue : Nat → Int32) (f_seen : Int32) (f_fail : Int32) (f_level : Int32) (a_eAt : Nat → Int32) (a_whereAt : Nat → Int32) (f_at : Int32) (f_self : Int32) (f_brackets : Int32) (f_values : Int32) (a_vKind : Nat → Int32) (a_v : Nat → Int32) (f_waiting : Int32) (a_waits : Nat → Int32) : Option (Int32 × (Nat → Int32) × (Nat → Int32) × Int32 × Int32 × Int32 × Int32 × Int32 × Int32 × (Nat → Int32) × (Nat → Int32) × Int32 × (Nat → Int32)) :=
  if s1 = 0 then
    if hq_I 0 41 = true then
      if (a_v (0 : Int32).toNatClampNeg) = 0 then
        some (f_rowCount, a_rowKind, a_rowValue, f_seen, s1, f_at, f_self, f_brackets, f_values, a_vKind, a_v, f_waiting, a_waits)
      else
        sm_look_J83 l1 f_objects a_kindOf a_size a_slotKind a_slot a_kept f_count a_code a_number f_rowCount a_rowKind a_rowValue f_seen s1 f_level a_eAt a_whereAt f_at f_self f_brackets f_values a_vKind a_v f_waiting a_waits
    else none
  else
    some (f_rowCount, a_rowKind, a_rowValue, f_seen, s1, f_at, f_self, f_brackets, f_values, a_vKind, a_v, f_waiting, a_waits)
def sm_look_J59 (l1 : Int32) (f_objects : Int32) (a_kindOf : Nat → Int32) (a_size : Nat → Int32) (a_slotKind : Nat → Int32) (a_slot : Nat → Int32) (a_kept : Nat → Int32) (f_count : Int32) (a_code : Nat → Int32) (a_number : Nat → Int32) (f_rowCount : Int32) (a_rowKind : Nat → Int32) (a_rowValue : Nat → Int32) (f_seen : Int32) (f_fail : Int32) (f_level : Int32) (a_eAt : Nat → Int32) (a_whereAt : Nat → Int32) (f_at : Int32) (f_self : Int32) (f_brackets : Int32) (f_values : Int32) (a_vKind : Nat → Int32) (a_v : Nat → Int32) (f_waiting : Int32) (a_waits : Nat → Int32) : Option (Int32 × (Nat → Int32) × (Nat → Int32) × Int32 × Int32 × Int32 × Int32 × Int32 × Int32 × (Nat → Int32) × (Nat → Int32) × Int32 × (Nat → Int32)) :=
  sm_look_J63 l1 f_fail f_objects a_kindOf a_size a_slotKind a_slot a_kept f_count a_code a_number f_rowCount a_rowKind a_rowValue f_seen f_fail f_level a_eAt a_whereAt f_at f_self f_brackets f_values a_vKind a_v f_waiting a_waits
def sm_look (l1 : Int32) (f_objects : Int32) (a_kindOf : Nat → Int32) (a_size : Nat → Int32) (a_slotKind : Nat → Int32) (a_slot : Nat → Int32) (a_kept : Nat → Int32) (f_count : Int32) (a_code : Nat → Int32) (a_number : Nat → Int32) (f_rowCount : Int32) (a_rowKind : Nat → Int32) (a_rowValue : Nat → Int32) (f_seen : Int32) (f_fail : Int32) (f_level : Int32) (a_eAt : Nat → Int32) (a_whereAt : Nat → Int32) (f_at : Int32) (f_self : Int32) (f_brackets : Int32) (f_values : Int32) (a_vKind : Nat → Int32) (a_v : Nat → Int32) (f_waiting : Int32) (a_waits : Nat → Int32) : Option (Int32 × (Nat → Int32) × (Nat → Int32) × Int32 × Int32 × Int32 × Int32 × Int32 × Int32 × (Nat → Int32) × (Nat → Int32) × Int32 × (Nat → Int32)) :=
  if hq_I f_level 41 = true then
    if (a_whereAt f_level.toNatClampNeg) < 0 then
      sm_look_J83 l1 f_objects a_kindOf a_size a_slotKind a_slot a_kept f_count a_code a_number f_rowCount a_rowKind a_rowValue (f_seen + 1) f_fail f_level a_eAt a_whereAt f_at f_self f_brackets f_values a_vKind a_v f_waiting a_waits
    else
      if hq_I f_level 41 = true then
        (sm_work (a_whereAt f_level.toNatClampNeg) l1 f_objects a_kindOf a_size a_slotKind a_slot a_kept f_count a_code a_number f_fail f_at f_self f_brackets f_values a_vKind a_v f_waiting a_waits).bind fun v33 =>
          if v33.1 = 0 then
            if hq_I 0 41 = true then
              if (v33.2.2.2.2.2.1 (0 : Int32).toNatClampNeg) = 2 then
                sm_look_J63 l1 (-3) f_objects a_kindOf a_size a_slotKind a_slot a_kept f_count a_code a_number f_rowCount a_rowKind a_rowValue (f_seen + 1) v33.1 f_level a_eAt a_whereAt v33.2.1 v33.2.2.1 v33.2.2.2.1 v33.2.2.2.2.1 v33.2.2.2.2.2.1 v33.2.2.2.2.2.2.1 v33.2.2.2.2.2.2.2.1 v33.2.2.2.2.2.2.2.2
              else
                sm_look_J59 l1 f_objects a_kindOf a_size a_slotKind a_slot a_kept f_count a_code a_number f_rowCount a_rowKind a_rowValue (f_seen + 1) v33.1 f_level a_eAt a_whereAt v33.2.1 v33.2.2.1 v33.2.2.2.1 v33.2.2.2.2.1 v33.2.2.2.2.2.1 v33.2.2.2.2.2.2.1 v33.2.2.2.2.2.2.2.1 v33.2.2.2.2.2.2.2.2
            else none
          else
            sm_look_J59 l1 f_objects a_kindOf a_size a_slotKind a_slot a_kept f_count a_code a_number f_rowCount a_rowKind a_rowValue (f_seen + 1) v33.1 f_level a_eAt a_whereAt v33.2.1 v33.2.2.1 v33.2.2.2.1 v33.2.2.2.2.1 v33.2.2.2.2.2.1 v33.2.2.2.2.2.2.1 v33.2.2.2.2.2.2.2.1 v33.2.2.2.2.2.2.2.2
      else none
  else none
def sm_numbers_L2_B (rec : Int32 → Int32 → (Nat → Int32) → Int32 → Option (Int32)) (l2 : Int32) (f_rowCount : Int32) (a_rowKind : Nat → Int32) (f_fail : Int32) : Option (Int32) :=
  if f_rowCount ≤ l2 then
    some f_fail
  else
    if f_fail = 0 then
      if hq_I l2 200 = true then
        if (a_rowKind l2.toNatClampNeg) = 1 then
          rec (l2 + 1) f_rowCount a_rowKind (-4)
        else
          rec (l2 + 1) f_rowCount a_rowKind 0
      else none
    else
      some f_fail
def sm_numbers_L2 : Nat → Int32 → Int32 → (Nat → Int32) → Int32 → Option (Int32)
  | 0 => fun _ _ _ _ => none
  | n + 1 => sm_numbers_L2_B (sm_numbers_L2 n)
def sm_numbers (l1 : Int32) (f_rowCount : Int32) (a_rowKind : Nat → Int32) (f_fail : Int32) : Option (Int32) :=
  (sm_numbers_L2 kF l1 f_rowCount a_rowKind f_fail).bind fun u2 =>
    some u2
def sm_retain_L65_B (rec : Int32 → Int32 → Int32 → Int32 → (Nat → Int32) → (Nat → Int32) → Option (Int32 × (Nat → Int32) × (Nat → Int32))) (l3 : Int32) (l4 : Int32) (f_objects : Int32) (f_rowCount : Int32) (a_rowKind : Nat → Int32) (a_rowValue : Nat → Int32) : Option (Int32 × (Nat → Int32) × (Nat → Int32)) :=
  if f_objects ≤ l4 then
    some (f_rowCount, a_rowKind, a_rowValue)
  else
    if ((l3 >>> (l4 &&& 31)) &&& 1) = 1 then
      if hq_I f_rowCount 200 = true then
        if hq_I f_rowCount 200 = true then
          rec l3 (l4 + 1) f_objects (f_rowCount + 1) (upd a_rowKind f_rowCount.toNatClampNeg 2) (upd a_rowValue f_rowCount.toNatClampNeg l4)
        else none
      else none
    else
      rec l3 (l4 + 1) f_objects f_rowCount a_rowKind a_rowValue
def sm_retain_L65 : Nat → Int32 → Int32 → Int32 → Int32 → (Nat → Int32) → (Nat → Int32) → Option (Int32 × (Nat → Int32) × (Nat → Int32))
  | 0 => fun _ _ _ _ _ _ => none
  | n + 1 => sm_retain_L65_B (sm_retain_L65 n)
def sm_retain_L4_B (rec : Int32 → Int32 → Int32 → Int32 → (Nat → Int32) → (Nat → Int32) → Option (Int32)) (l1 : Int32) (l2 : Int32) (l3 : Int32) (f_rowCount : Int32) (a_rowKind : Nat → Int32) (a_rowValue : Nat → Int32) : Option (Int32) :=
  if f_rowCount ≤ l3 then
    some l2
  else
    if hq_I l3 200 = true then
      if (a_rowKind l3.toNatClampNeg) = 2 then
        if hq_I l3 200 = true then
          rec l1 (l2 ||| ((1 : Int32) <<< ((a_rowValue l3.toNatClampNeg) &&& 31))) (l3 + 1) f_rowCount a_rowKind a_rowValue
        else none
      else
        rec l1 l2 (l3 + 1) f_rowCount a_rowKind a_rowValue
    else none
def sm_retain_L4 : Nat → Int32 → Int32 → Int32 → Int32 → (Nat → Int32) → (Nat → Int32) → Option (Int32)
  | 0 => fun _ _ _ _ _ _ => none
  | n + 1 => sm_retain_L4_B (sm_retain_L4 n)
def sm_retain (l1 : Int32) (f_objects : Int32) (a_root : Nat → Int32) (a_slotKind : Nat → Int32) (a_slot : Nat → Int32) (f_rowCount : Int32) (a_rowKind : Nat → Int32) (a_rowValue : Nat → Int32) : Option (Int32 × (Nat → Int32) × (Nat → Int32)) :=
  (sm_retain_L4 kF l1 0 l1 f_rowCount a_rowKind a_rowValue).bind fun u4 =>
    (sm_reach 0 f_objects a_root a_slotKind a_slot).bind fun v45 =>
      (sm_reach u4 f_objects a_root a_slotKind a_slot).bind fun v50 =>
        (sm_retain_L65 kF (v45 &&& (v50 ^^^ (-1))) 0 f_objects l1 a_rowKind a_rowValue).bind fun u65 =>
          some (u65.1, u65.2.1, u65.2.2)
def sm_single_L18_B (rec : Int32 → Int32 → Int32 → Int32 → Int32 → (Nat → Int32) → (Nat → Int32) → Option (Int32)) (l1 : Int32) (l2 : Int32) (l3 : Int32) (l4 : Int32) (l5 : Int32) (a_rowKind : Nat → Int32) (a_rowValue : Nat → Int32) : Option (Int32) :=
  if l2 ≤ l5 then
    some l4
  else
    if l4 = 0 then
      rec l1 l2 l3 0 (l5 + 1) a_rowKind a_rowValue
    else
      if hq_I l5 200 = true then
        if hq_I l3 200 = true then
          if (a_rowKind l5.toNatClampNeg) = (a_rowKind l3.toNatClampNeg) then
            if hq_I l5 200 = true then
              if hq_I l3 200 = true then
                if (a_rowValue l5.toNatClampNeg) = (a_rowValue l3.toNatClampNeg) then
                  rec l1 l2 l3 0 (l5 + 1) a_rowKind a_rowValue
                else
                  rec l1 l2 l3 1 (l5 + 1) a_rowKind a_rowValue
              else none
            else none
          else
            rec l1 l2 l3 1 (l5 + 1) a_rowKind a_rowValue
        else none
      else none
def sm_single_L18 : Nat → Int32 → Int32 → Int32 → Int32 → Int32 → (Nat → Int32) → (Nat → Int32) → Option (Int32)
  | 0 => fun _ _ _ _ _ _ _ => none
  | n + 1 => sm_single_L18_B (sm_single_L18 n)
def sm_single_L4_B (rec : Int32 → Int32 → Int32 → Int32 → (Nat → Int32) → (Nat → Int32) → Option (Int32 × (Nat → Int32) × (Nat → Int32))) (l1 : Int32) (l2 : Int32) (l3 : Int32) (f_rowCount : Int32) (a_rowKind : Nat → Int32) (a_rowValue : Nat → Int32) : Option (Int32 × (Nat → Int32) × (Nat → Int32)) :=
  if f_rowCount ≤ l3 then
    some (l2, a_rowKind, a_rowValue)
  else
    (sm_single_L18 kF l1 l2 l3 1 l1 a_rowKind a_rowValue).bind fun u18 =>
      if hq_I l3 200 = true then
        if hq_I l2 200 = true then
          if hq_I l3 200 = true then
            if hq_I l2 200 = true then
              if u18 = 0 then
                rec l1 l2 (l3 + 1) f_rowCount (upd a_rowKind l2.toNatClampNeg (a_rowKind l3.toNatClampNeg)) (upd a_rowValue l2.toNatClampNeg (a_rowValue l3.toNatClampNeg))
              else
                rec l1 (l2 + 1) (l3 + 1) f_rowCount (upd a_rowKind l2.toNatClampNeg (a_rowKind l3.toNatClampNeg)) (upd a_rowValue l2.toNatClampNeg (a_rowValue l3.toNatClampNeg))
            else none
          else none
        else none
      else none
def sm_single_L4 : Nat → Int32 → Int32 → Int32 → Int32 → (Nat → Int32) → (Nat → Int32) → Option (Int32 × (Nat → Int32) × (Nat → Int32))
  | 0 => fun _ _ _ _ _ _ => none
  | n + 1 => sm_single_L4_B (sm_single_L4 n)
def sm_single (l1 : Int32) (f_rowCount : Int32) (a_rowKind : Nat → Int32) (a_rowValue : Nat → Int32) : Option (Int32 × (Nat → Int32) × (Nat → Int32)) :=
  (sm_single_L4 kF l1 l1 l1 f_rowCount a_rowKind a_rowValue).bind fun u4 =>
    some (u4.1, u4.2.1, u4.2.2)
def sm_select_J74 (l1 : Int32) (a_parent : Nat → Int32) (f_objects : Int32) (a_kindOf : Nat → Int32) (a_size : Nat → Int32) (a_root : Nat → Int32) (a_slotKind : Nat → Int32) (a_slot : Nat → Int32) (a_kept : Nat → Int32) (f_count : Int32) (a_code : Nat → Int32) (a_number : Nat → Int32) (f_rowCount : Int32) (a_rowKind : Nat → Int32) (a_rowValue : Nat → Int32) (f_many : Int32) (a_list : Nat → Int32) (f_seen : Int32) (f_fail : Int32) (f_level : Int32) (a_from : Nat → Int32) (a_eAt : Nat → Int32) (a_whereAt : Nat → Int32) (a_source : Nat → Int32) (a_distinct : Nat → Int32) (a_keeps : Nat → Int32) (f_at : Int32) (f_self : Int32) (f_brackets : Int32) (f_values : Int32) (a_vKind : Nat → Int32) (a_v : Nat → Int32) (f_waiting : Int32) (a_waits : Nat → Int32) : Option (Int32 × (Nat → Int32) × (Nat → Int32) × Int32 × (Nat → Int32) × Int32 × Int32 × Int32 × Int32 × Int32 × Int32 × (Nat → Int32) × (Nat → Int32) × Int32 × (Nat → Int32)) :=
  if f_fail = 0 then
    if hq_I f_level 41 = true then
      if (a_distinct f_level.toNatClampNeg) = 0 then
        some (f_rowCount, a_rowKind, a_rowValue, f_many, a_list, f_seen, f_fail, f_at, f_self, f_brackets, f_values, a_vKind, a_v, f_waiting, a_waits)
      else
        (sm_single l1 f_rowCount a_rowKind a_rowValue).bind fun v95 =>
          some (v95.1, v95.2.1, v95.2.2, f_many, a_list, f_seen, f_fail, f_at, f_self, f_brackets, f_values, a_vKind, a_v, f_waiting, a_waits)
    else none
  else
    some (f_rowCount, a_rowKind, a_rowValue, f_many, a_list, f_seen, f_fail, f_at, f_self, f_brackets, f_values, a_vKind, a_v, f_waiting, a_waits)
def sm_select_J42 (l1 : Int32) (a_parent : Nat → Int32) (f_objects : Int32) (a_kindOf : Nat → Int32) (a_size : Nat → Int32) (a_root : Nat → Int32) (a_slotKind : Nat → Int32) (a_slot : Nat → Int32) (a_kept : Nat → Int32) (f_count : Int32) (a_code : Nat → Int32) (a_number : Nat → Int32) (f_rowCount : Int32) (a_rowKind : Nat → Int32) (a_rowValue : Nat → Int32) (f_many : Int32) (a_list : Nat → Int32) (f_seen : Int32) (f_fail : Int32) (f_level : Int32) (a_from : Nat → Int32) (a_eAt : Nat → Int32) (a_whereAt : Nat → Int32) (a_source : Nat → Int32) (a_distinct : Nat → Int32) (a_keeps : Nat → Int32) (f_at : Int32) (f_self : Int32) (f_brackets : Int32) (f_values : Int32) (a_vKind : Nat → Int32) (a_v : Nat → Int32) (f_waiting : Int32) (a_waits : Nat → Int32) : Option (Int32 × (Nat → Int32) × (Nat → Int32) × Int32 × (Nat → Int32) × Int32 × Int32 × Int32 × Int32 × Int32 × Int32 × (Nat → Int32) × (Nat → Int32) × Int32 × (Nat → Int32)) :=
  if f_fail = 0 then
    if hq_I f_level 41 = true then
      if (a_keeps f_level.toNatClampNeg) = 0 then
        sm_select_J74 l1 a_parent f_objects a_kindOf a_size a_root a_slotKind a_slot a_kept f_count a_code a_number f_rowCount a_rowKind a_rowValue f_many a_list f_seen f_fail f_level a_from a_eAt a_whereAt a_source a_distinct a_keeps f_at f_self f_brackets f_values a_vKind a_v f_waiting a_waits
      else
        (sm_numbers l1 f_rowCount a_rowKind f_fail).bind fun v63 =>
          (sm_retain l1 f_objects a_root a_slotKind a_slot f_rowCount a_rowKind a_rowValue).bind fun v68 =>
            some (v68.1, v68.2.1, v68.2.2, f_many, a_list, f_seen, v63, f_at, f_self, f_brackets, f_values, a_vKind, a_v, f_waiting, a_waits)
    else none
  else
    sm_select_J74 l1 a_parent f_objects a_kindOf a_size a_root a_slotKind a_slot a_kept f_count a_code a_number f_rowCount a_rowKind a_rowValue f_many a_list f_seen f_fail f_level a_from a_eAt a_whereAt a_source a_distinct a_keeps f_at f_self f_brackets f_values a_vKind a_v f_waiting a_waits
def sm_select_L11_B (rec : Int32 → Int32 → Int32 → (Nat → Int32) → (Nat → Int32) → (Nat → Int32) → (Nat → Int32) → (Nat → Int32) → Int32 → (Nat → Int32) → (Nat → Int32) → Int32 → (Nat → Int32) → (Nat → Int32) → Int32 → (Nat → Int32) → Int32 → Int32 → Int32 → (Nat → Int32) → (Nat → Int32) → Int32 → Int32 → Int32 → Int32 → (Nat → Int32) → (Nat → Int32) → Int32 → (Nat → Int32) → Option (Int32 × (Nat → Int32) × (Nat → Int32) × Int32 × Int32 × Int32 × Int32 × Int32 × Int32 × (Nat → Int32) × (Nat → Int32) × Int32 × (Nat → Int32))) (l1 : Int32) (l2 : Int32) (f_objects : Int32) (a_kindOf : Nat → Int32) (a_size : Nat → Int32) (a_slotKind : Nat → Int32) (a_slot : Nat → Int32) (a_kept : Nat → Int32) (f_count : Int32) (a_code : Nat → Int32) (a_number : Nat → Int32) (f_rowCount : Int32) (a_rowKind : Nat → Int32) (a_rowValue : Nat → Int32) (f_many : Int32) (a_list : Nat → Int32) (f_seen : Int32) (f_fail : Int32) (f_level : Int32) (a_eAt : Nat → Int32) (a_whereAt : Nat → Int32) (f_at : Int32) (f_self : Int32) (f_brackets : Int32) (f_values : Int32) (a_vKind : Nat → Int32) (a_v : Nat → Int32) (f_waiting : Int32) (a_waits : Nat → Int32) : Option (Int32 × (Nat → Int32) × (Nat → Int32) × Int32 × Int32 × Int32 × Int32 × Int32 × Int32 × (Nat → Int32) × (Nat → Int32) × Int32 × (Nat → Int32)) :=
  if f_many ≤ l2 then
    some (f_rowCount, a_rowKind, a_rowValue, f_seen, f_fail, f_at, f_self, f_brackets, f_values, a_vKind, a_v, f_waiting, a_waits)
  else
    if f_fail = 0 then
      if hq_I l2 200 = true then
        (sm_look (a_list l2.toNatClampNeg) f_objects a_kindOf a_size a_slotKind a_slot a_kept f_count a_code a_number f_rowCount a_rowKind a_rowValue f_seen f_fail f_level a_eAt a_whereAt f_at f_self f_brackets f_values a_vKind a_v f_waiting a_waits).bind fun v33 =>
          rec l1 (l2 + 1) f_objects a_kindOf a_size a_slotKind a_slot a_kept f_count a_code a_number v33.1 v33.2.1 v33.2.2.1 f_many a_list v33.2.2.2.1 v33.2.2.2.2.1 f_level a_eAt a_whereAt v33.2.2.2.2.2.1 v33.2.2.2.2.2.2.1 v33.2.2.2.2.2.2.2.1 v33.2.2.2.2.2.2.2.2.1 v33.2.2.2.2.2.2.2.2.2.1 v33.2.2.2.2.2.2.2.2.2.2.1 v33.2.2.2.2.2.2.2.2.2.2.2.1 v33.2.2.2.2.2.2.2.2.2.2.2.2
      else none
    else
      some (f_rowCount, a_rowKind, a_rowValue, f_seen, f_fail, f_at, f_self, f_brackets, f_values, a_vKind, a_v, f_waiting, a_waits)
def sm_select_L11 : Nat → Int32 → Int32 → Int32 → (Nat → Int32) → (Nat → Int32) → (Nat → Int32) → (Nat → Int32) → (Nat → Int32) → Int32 → (Nat → Int32) → (Nat → Int32) → Int32 → (Nat → Int32) → (Nat → Int32) → Int32 → (Nat → Int32) → Int32 → Int32 → Int32 → (Nat → Int32) → (Nat → Int32) → Int32 → Int32 → Int32 → Int32 → (Nat → Int32) → (Nat → Int32) → Int32 → (Nat → Int32) → Option (Int32 × (Nat → Int32) × (Nat → Int32) × Int32 × Int32 × Int32 × Int32 × Int32 × Int32 × (Nat → Int32) × (Nat → Int32) × Int32 × (Nat → Int32))
  | 0 => fun _ _ _ _ _ _ _ _ _ _ _ _ _ _ _ _ _ _ _ _ _ _ _ _ _ _ _ _ _ => none
  | n + 1 => sm_select_L11_B (sm_select_L11 n)
def sm_select (a_parent : Nat → Int32) (f_objects : Int32) (a_kindOf : Nat → Int32) (a_size : Nat → Int32) (a_root : Nat → Int32) (a_slotKind : Nat → Int32) (a_slot : Nat → Int32) (a_kept : Nat → Int32) (f_count : Int32) (a_code : Nat → Int32) (a_number : Nat → Int32) (f_rowCount : Int32) (a_rowKind : Nat → Int32) (a_rowValue : Nat → Int32) (f_many : Int32) (a_list : Nat → Int32) (f_seen : Int32) (f_fail : Int32) (f_level : Int32) (a_from : Nat → Int32) (a_eAt : Nat → Int32) (a_whereAt : Nat → Int32) (a_source : Nat → Int32) (a_distinct : Nat → Int32) (a_keeps : Nat → Int32) (f_at : Int32) (f_self : Int32) (f_brackets : Int32) (f_values : Int32) (a_vKind : Nat → Int32) (a_v : Nat → Int32) (f_waiting : Int32) (a_waits : Nat → Int32) : Option (Int32 × (Nat → Int32) × (Nat → Int32) × Int32 × (Nat → Int32) × Int32 × Int32 × Int32 × Int32 × Int32 × Int32 × (Nat → Int32) × (Nat → Int32) × Int32 × (Nat → Int32)) :=
  (sm_gather a_parent f_objects a_kindOf a_code a_number f_rowCount a_rowKind a_rowValue f_many a_list f_level a_from a_source).bind fun v1 =>
    (sm_select_L11 kF v1.1 0 f_objects a_kindOf a_size a_slotKind a_slot a_kept f_count a_code a_number v1.1 a_rowKind a_rowValue v1.2.1 v1.2.2 f_seen f_fail f_level a_eAt a_whereAt f_at f_self f_brackets f_values a_vKind a_v f_waiting a_waits).bind fun u11 =>
      sm_select_J42 v1.1 a_parent f_objects a_kindOf a_size a_root a_slotKind a_slot a_kept f_count a_code a_number u11.1 u11.2.1 u11.2.2.1 v1.2.1 v1.2.2 u11.2.2.2.1 u11.2.2.2.2.1 f_level a_from a_eAt a_whereAt a_source a_distinct a_keeps u11.2.2.2.2.2.1 u11.2.2.2.2.2.2.1 u11.2.2.2.2.2.2.2.1 u11.2.2.2.2.2.2.2.2.1 u11.2.2.2.2.2.2.2.2.2.1 u11.2.2.2.2.2.2.2.2.2.2.1 u11.2.2.2.2.2.2.2.2.2.2.2.1 u11.2.2.2.2.2.2.2.2.2.2.2.2
def sm_notice_J236 (l3 : Int32) (a_parent : Nat → Int32) (f_objects : Int32) (a_kindOf : Nat → Int32) (a_size : Nat → Int32) (a_root : Nat → Int32) (a_slotKind : Nat → Int32) (a_slot : Nat → Int32) (a_kept : Nat → Int32) (f_count : Int32) (a_code : Nat → Int32) (a_number : Nat → Int32) (f_want : Int32) (f_rowCount : Int32) (a_rowKind : Nat → Int32) (a_rowValue : Nat → Int32) (f_many : Int32) (a_list : Nat → Int32) (f_seen : Int32) (f_fail : Int32) (f_level : Int32) (a_from : Nat → Int32) (a_eAt : Nat → Int32) (a_whereAt : Nat → Int32) (a_source : Nat → Int32) (a_distinct : Nat → Int32) (a_keeps : Nat → Int32) (f_at : Int32) (f_self : Int32) (f_brackets : Int32) (f_values : Int32) (a_vKind : Nat → Int32) (a_v : Nat → Int32) (f_waiting : Int32) (a_waits : Nat → Int32) : Option (Int32 × (Nat → Int32) × (Nat → Int32) × Int32 × (Nat → Int32) × Int32 × Int32 × Int32 × (Nat → Int32) × (Nat → Int32) × (Nat → Int32) × (Nat → Int32) × (Nat → Int32) × (Nat → Int32) × Int32 × Int32 × Int32 × Int32 × (Nat → Int32) × (Nat → Int32) × Int32 × (Nat → Int32)) :=
  (sm_select a_parent f_objects a_kindOf a_size a_root a_slotKind a_slot a_kept f_count a_code a_number f_rowCount a_rowKind a_rowValue f_many a_list f_seen f_fail f_level a_from a_eAt a_whereAt a_source a_distinct a_keeps f_at f_self f_brackets f_values a_vKind a_v f_waiting a_waits).bind fun v237 =>
    if l3 = 7 then
      if hq_I f_level 41 = true then
        (sm_numbers (a_from f_level.toNatClampNeg) v237.1 v237.2.1 v237.2.2.2.2.2.2.1).bind fun v256 =>
          some (v237.1, v237.2.1, v237.2.2.1, v237.2.2.2.1, v237.2.2.2.2.1, v237.2.2.2.2.2.1, v256, f_level - 1, a_from, a_eAt, a_whereAt, a_source, a_distinct, a_keeps, v237.2.2.2.2.2.2.2.1, v237.2.2.2.2.2.2.2.2.1, v237.2.2.2.2.2.2.2.2.2.1, v237.2.2.2.2.2.2.2.2.2.2.1, v237.2.2.2.2.2.2.2.2.2.2.2.1, v237.2.2.2.2.2.2.2.2.2.2.2.2.1, v237.2.2.2.2.2.2.2.2.2.2.2.2.2.1, v237.2.2.2.2.2.2.2.2.2.2.2.2.2.2)
      else none
    else
      some (v237.1, v237.2.1, v237.2.2.1, v237.2.2.2.1, v237.2.2.2.2.1, v237.2.2.2.2.2.1, v237.2.2.2.2.2.2.1, f_level, a_from, a_eAt, a_whereAt, a_source, a_distinct, a_keeps, v237.2.2.2.2.2.2.2.1, v237.2.2.2.2.2.2.2.2.1, v237.2.2.2.2.2.2.2.2.2.1, v237.2.2.2.2.2.2.2.2.2.2.1, v237.2.2.2.2.2.2.2.2.2.2.2.1, v237.2.2.2.2.2.2.2.2.2.2.2.2.1, v237.2.2.2.2.2.2.2.2.2.2.2.2.2.1, v237.2.2.2.2.2.2.2.2.2.2.2.2.2.2)
def sm_notice_J220 (l3 : Int32) (a_parent : Nat → Int32) (f_objects : Int32) (a_kindOf : Nat → Int32) (a_size : Nat → Int32) (a_root : Nat → Int32) (a_slotKind : Nat → Int32) (a_slot : Nat → Int32) (a_kept : Nat → Int32) (f_count : Int32) (a_code : Nat → Int32) (a_number : Nat → Int32) (f_want : Int32) (f_rowCount : Int32) (a_rowKind : Nat → Int32) (a_rowValue : Nat → Int32) (f_many : Int32) (a_list : Nat → Int32) (f_seen : Int32) (f_fail : Int32) (f_level : Int32) (a_from : Nat → Int32) (a_eAt : Nat → Int32) (a_whereAt : Nat → Int32) (a_source : Nat → Int32) (a_distinct : Nat → Int32) (a_keeps : Nat → Int32) (f_at : Int32) (f_self : Int32) (f_brackets : Int32) (f_values : Int32) (a_vKind : Nat → Int32) (a_v : Nat → Int32) (f_waiting : Int32) (a_waits : Nat → Int32) : Option (Int32 × (Nat → Int32) × (Nat → Int32) × Int32 × (Nat → Int32) × Int32 × Int32 × Int32 × (Nat → Int32) × (Nat → Int32) × (Nat → Int32) × (Nat → Int32) × (Nat → Int32) × (Nat → Int32) × Int32 × Int32 × Int32 × Int32 × (Nat → Int32) × (Nat → Int32) × Int32 × (Nat → Int32)) :=
  if f_want = 0 then
    sm_notice_J236 l3 a_parent f_objects a_kindOf a_size a_root a_slotKind a_slot a_kept f_count a_code a_number f_want f_rowCount a_rowKind a_rowValue f_many a_list f_seen f_fail f_level a_from a_eAt a_whereAt a_source a_distinct a_keeps f_at f_self f_brackets f_values a_vKind a_v f_waiting a_waits
  else
    if f_want < 7 then
      some (f_rowCount, a_rowKind, a_rowValue, f_many, a_list, f_seen, f_fail, f_level, a_from, a_eAt, a_whereAt, a_source, a_distinct, a_keeps, f_at, f_self, f_brackets, f_values, a_vKind, a_v, f_waiting, a_waits)
    else
      sm_notice_J236 l3 a_parent f_objects a_kindOf a_size a_root a_slotKind a_slot a_kept f_count a_code a_number f_want f_rowCount a_rowKind a_rowValue f_many a_list f_seen f_fail f_level a_from a_eAt a_whereAt a_source a_distinct a_keeps f_at f_self f_brackets f_values a_vKind a_v f_waiting a_waits
def sm_notice_J161 (l3 : Int32) (s1 : Int32) (s2 : Int32) (a_parent : Nat → Int32) (f_objects : Int32) (a_kindOf : Nat → Int32) (a_size : Nat → Int32) (a_root : Nat → Int32) (a_slotKind : Nat → Int32) (a_slot : Nat → Int32) (a_kept : Nat → Int32) (f_count : Int32) (a_code : Nat → Int32) (a_number : Nat → Int32) (f_want : Int32) (f_rowCount : Int32) (a_rowKind : Nat → Int32) (a_rowValue : Nat → Int32) (f_many : Int32) (a_list : Nat → Int32) (f_seen : Int32) (f_fail : Int32) (f_level : Int32) (a_from : Nat → Int32) (a_eAt : Nat → Int32) (a_whereAt : Nat → Int32) (a_source : Nat → Int32) (a_distinct : Nat → Int32) (a_keeps : Nat → Int32) (f_at : Int32) (f_self : Int32) (f_brackets : Int32) (f_values : Int32) (a_vKind : Nat → Int32) (a_v : Nat → Int32) (f_waiting : Int32) (a_waits : Nat → Int32) : Option (Int32 × (Nat → Int32) × (Nat → Int32) × Int32 × (Nat → Int32) × Int32 × Int32 × Int32 × (Nat → Int32) × (Nat → Int32) × (Nat → Int32) × (Nat → Int32) × (Nat → Int32) × (Nat → Int32) × Int32 × Int32 × Int32 × Int32 × (Nat → Int32) × (Nat → Int32) × Int32 × (Nat → Int32)) :=
  if hq_I s1 41 = true then
    if l3 = 6 then
      if hq_I (f_level + 1) 41 = true then
        some ((f_rowCount, a_rowKind, a_rowValue, f_many, a_list, f_seen, f_fail, f_level + 1, upd a_from (f_level + 1).toNatClampNeg f_rowCount, a_eAt, a_whereAt, upd a_source s1.toNatClampNeg s2, a_distinct, a_keeps, f_at, f_self, f_brackets, f_values, a_vKind, a_v, f_waiting, a_waits))
      else none
    else
      some (f_rowCount, a_rowKind, a_rowValue, f_many, a_list, f_seen, f_fail, f_level, a_from, a_eAt, a_whereAt, upd a_source s1.toNatClampNeg s2, a_distinct, a_keeps, f_at, f_self, f_brackets, f_values, a_vKind, a_v, f_waiting, a_waits)
  else none
def sm_notice_J136 (l1 : Int32) (l2 : Int32) (l3 : Int32) (a_parent : Nat → Int32) (f_objects : Int32) (a_kindOf : Nat → Int32) (a_size : Nat → Int32) (a_root : Nat → Int32) (a_slotKind : Nat → Int32) (a_slot : Nat → Int32) (a_kept : Nat → Int32) (f_count : Int32) (a_code : Nat → Int32) (a_number : Nat → Int32) (f_want : Int32) (f_rowCount : Int32) (a_rowKind : Nat → Int32) (a_rowValue : Nat → Int32) (f_many : Int32) (a_list : Nat → Int32) (f_seen : Int32) (f_fail : Int32) (f_level : Int32) (a_from : Nat → Int32) (a_eAt : Nat → Int32) (a_whereAt : Nat → Int32) (a_source : Nat → Int32) (a_distinct : Nat → Int32) (a_keeps : Nat → Int32) (f_at : Int32) (f_self : Int32) (f_brackets : Int32) (f_values : Int32) (a_vKind : Nat → Int32) (a_v : Nat → Int32) (f_waiting : Int32) (a_waits : Nat → Int32) : Option (Int32 × (Nat → Int32) × (Nat → Int32) × Int32 × (Nat → Int32) × Int32 × Int32 × Int32 × (Nat → Int32) × (Nat → Int32) × (Nat → Int32) × (Nat → Int32) × (Nat → Int32) × (Nat → Int32) × Int32 × Int32 × Int32 × Int32 × (Nat → Int32) × (Nat → Int32) × Int32 × (Nat → Int32)) :=
  if l2 = 6 then
    if l3 = 6 then
      sm_notice_J161 l3 f_level (-1) a_parent f_objects a_kindOf a_size a_root a_slotKind a_slot a_kept f_count a_code a_number f_want f_rowCount a_rowKind a_rowValue f_many a_list f_seen f_fail f_level a_from a_eAt a_whereAt a_source a_distinct a_keeps f_at f_self f_brackets f_values a_vKind a_v f_waiting a_waits
    else
      sm_notice_J161 l3 f_level l1 a_parent f_objects a_kindOf a_size a_root a_slotKind a_slot a_kept f_count a_code a_number f_want f_rowCount a_rowKind a_rowValue f_many a_list f_seen f_fail f_level a_from a_eAt a_whereAt a_source a_distinct a_keeps f_at f_self f_brackets f_values a_vKind a_v f_waiting a_waits
  else
    if l2 = 7 then
      if l3 = 4 then
        if hq_I f_level 41 = true then
          some ((f_rowCount, a_rowKind, a_rowValue, f_many, a_list, f_seen, f_fail, f_level, a_from, a_eAt, upd a_whereAt f_level.toNatClampNeg (l1 + 1), a_source, a_distinct, a_keeps, f_at, f_self, f_brackets, f_values, a_vKind, a_v, f_waiting, a_waits))
        else none
      else
        sm_notice_J220 l3 a_parent f_objects a_kindOf a_size a_root a_slotKind a_slot a_kept f_count a_code a_number f_want f_rowCount a_rowKind a_rowValue f_many a_list f_seen f_fail f_level a_from a_eAt a_whereAt a_source a_distinct a_keeps f_at f_self f_brackets f_values a_vKind a_v f_waiting a_waits
    else
      sm_notice_J220 l3 a_parent f_objects a_kindOf a_size a_root a_slotKind a_slot a_kept f_count a_code a_number f_want f_rowCount a_rowKind a_rowValue f_many a_list f_seen f_fail f_level a_from a_eAt a_whereAt a_source a_distinct a_keeps f_at f_self f_brackets f_values a_vKind a_v f_waiting a_waits
def sm_notice_J120 (l1 : Int32) (s1 : Int32) (s2 : Int32) (a_parent : Nat → Int32) (f_objects : Int32) (a_kindOf : Nat → Int32) (a_size : Nat → Int32) (a_root : Nat → Int32) (a_slotKind : Nat → Int32) (a_slot : Nat → Int32) (a_kept : Nat → Int32) (f_count : Int32) (a_code : Nat → Int32) (a_number : Nat → Int32) (f_want : Int32) (f_rowCount : Int32) (a_rowKind : Nat → Int32) (a_rowValue : Nat → Int32) (f_many : Int32) (a_list : Nat → Int32) (f_seen : Int32) (f_fail : Int32) (f_level : Int32) (a_from : Nat → Int32) (a_eAt : Nat → Int32) (a_whereAt : Nat → Int32) (a_source : Nat → Int32) (a_distinct : Nat → Int32) (a_keeps : Nat → Int32) (f_at : Int32) (f_self : Int32) (f_brackets : Int32) (f_values : Int32) (a_vKind : Nat → Int32) (a_v : Nat → Int32) (f_waiting : Int32) (a_waits : Nat → Int32) : Option (Int32 × (Nat → Int32) × (Nat → Int32) × Int32 × (Nat → Int32) × Int32 × Int32 × Int32 × (Nat → Int32) × (Nat → Int32) × (Nat → Int32) × (Nat → Int32) × (Nat → Int32) × (Nat → Int32) × Int32 × Int32 × Int32 × Int32 × (Nat → Int32) × (Nat → Int32) × Int32 × (Nat → Int32)) :=
  if hq_I s1 41 = true then
    if s2 = 0 ∨ s2 = 1 then
      if hq_I f_level 41 = true then
        some ((f_rowCount, a_rowKind, a_rowValue, f_many, a_list, f_seen, f_fail, f_level, a_from, upd a_eAt f_level.toNatClampNeg (l1 + 1), a_whereAt, a_source, a_distinct, upd a_keeps s1.toNatClampNeg s2, f_at, f_self, f_brackets, f_values, a_vKind, a_v, f_waiting, a_waits))
      else none
    else none
  else none
def sm_notice_J101 (l1 : Int32) (l3 : Int32) (s1 : Int32) (s2 : Int32) (a_parent : Nat → Int32) (f_objects : Int32) (a_kindOf : Nat → Int32) (a_size : Nat → Int32) (a_root : Nat → Int32) (a_slotKind : Nat → Int32) (a_slot : Nat → Int32) (a_kept : Nat → Int32) (f_count : Int32) (a_code : Nat → Int32) (a_number : Nat → Int32) (f_want : Int32) (f_rowCount : Int32) (a_rowKind : Nat → Int32) (a_rowValue : Nat → Int32) (f_many : Int32) (a_list : Nat → Int32) (f_seen : Int32) (f_fail : Int32) (f_level : Int32) (a_from : Nat → Int32) (a_eAt : Nat → Int32) (a_whereAt : Nat → Int32) (a_source : Nat → Int32) (a_distinct : Nat → Int32) (a_keeps : Nat → Int32) (f_at : Int32) (f_self : Int32) (f_brackets : Int32) (f_values : Int32) (a_vKind : Nat → Int32) (a_v : Nat → Int32) (f_waiting : Int32) (a_waits : Nat → Int32) : Option (Int32 × (Nat → Int32) × (Nat → Int32) × Int32 × (Nat → Int32) × Int32 × Int32 × Int32 × (Nat → Int32) × (Nat → Int32) × (Nat → Int32) × (Nat → Int32) × (Nat → Int32) × (Nat → Int32) × Int32 × Int32 × Int32 × Int32 × (Nat → Int32) × (Nat → Int32) × Int32 × (Nat → Int32)) :=
  if hq_I s1 41 = true then
    if s2 = 0 ∨ s2 = 1 then
      if l3 = 2 then
        sm_notice_J120 l1 f_level 1 a_parent f_objects a_kindOf a_size a_root a_slotKind a_slot a_kept f_count a_code a_number f_want f_rowCount a_rowKind a_rowValue f_many a_list f_seen f_fail f_level a_from a_eAt a_whereAt a_source (upd a_distinct s1.toNatClampNeg s2) a_keeps f_at f_self f_brackets f_values a_vKind a_v f_waiting a_waits
      else
        sm_notice_J120 l1 f_level 0 a_parent f_objects a_kindOf a_size a_root a_slotKind a_slot a_kept f_count a_code a_number f_want f_rowCount a_rowKind a_rowValue f_many a_list f_seen f_fail f_level a_from a_eAt a_whereAt a_source (upd a_distinct s1.toNatClampNeg s2) a_keeps f_at f_self f_brackets f_values a_vKind a_v f_waiting a_waits
    else none
  else none
def sm_notice_J96 (l1 : Int32) (l3 : Int32) (s1 : Int32) (a_parent : Nat → Int32) (f_objects : Int32) (a_kindOf : Nat → Int32) (a_size : Nat → Int32) (a_root : Nat → Int32) (a_slotKind : Nat → Int32) (a_slot : Nat → Int32) (a_kept : Nat → Int32) (f_count : Int32) (a_code : Nat → Int32) (a_number : Nat → Int32) (f_want : Int32) (f_rowCount : Int32) (a_rowKind : Nat → Int32) (a_rowValue : Nat → Int32) (f_many : Int32) (a_list : Nat → Int32) (f_seen : Int32) (f_fail : Int32) (f_level : Int32) (a_from : Nat → Int32) (a_eAt : Nat → Int32) (a_whereAt : Nat → Int32) (a_source : Nat → Int32) (a_distinct : Nat → Int32) (a_keeps : Nat → Int32) (f_at : Int32) (f_self : Int32) (f_brackets : Int32) (f_values : Int32) (a_vKind : Nat → Int32) (a_v : Nat → Int32) (f_waiting : Int32) (a_waits : Nat → Int32) : Option (Int32 × (Nat → Int32) × (Nat → Int32) × Int32 × (Nat → Int32) × Int32 × Int32 × Int32 × (Nat → Int32) × (Nat → Int32) × (Nat → Int32) × (Nat → Int32) × (Nat → Int32) × (Nat → Int32) × Int32 × Int32 × Int32 × Int32 × (Nat → Int32) × (Nat → Int32) × Int32 × (Nat → Int32)) :=
  sm_notice_J101 l1 l3 s1 1 a_parent f_objects a_kindOf a_size a_root a_slotKind a_slot a_kept f_count a_code a_number f_want f_rowCount a_rowKind a_rowValue f_many a_list f_seen f_fail f_level a_from a_eAt a_whereAt a_source a_distinct a_keeps f_at f_self f_brackets f_values a_vKind a_v f_waiting a_waits
def sm_notice_J71 (l1 : Int32) (l3 : Int32) (a_parent : Nat → Int32) (f_objects : Int32) (a_kindOf : Nat → Int32) (a_size : Nat → Int32) (a_root : Nat → Int32) (a_slotKind : Nat → Int32) (a_slot : Nat → Int32) (a_kept : Nat → Int32) (f_count : Int32) (a_code : Nat → Int32) (a_number : Nat → Int32) (f_want : Int32) (f_rowCount : Int32) (a_rowKind : Nat → Int32) (a_rowValue : Nat → Int32) (f_many : Int32) (a_list : Nat → Int32) (f_seen : Int32) (f_fail : Int32) (f_level : Int32) (a_from : Nat → Int32) (a_eAt : Nat → Int32) (a_whereAt : Nat → Int32) (a_source : Nat → Int32) (a_distinct : Nat → Int32) (a_keeps : Nat → Int32) (f_at : Int32) (f_self : Int32) (f_brackets : Int32) (f_values : Int32) (a_vKind : Nat → Int32) (a_v : Nat → Int32) (f_waiting : Int32) (a_waits : Nat → Int32) : Option (Int32 × (Nat → Int32) × (Nat → Int32) × Int32 × (Nat → Int32) × Int32 × Int32 × Int32 × (Nat → Int32) × (Nat → Int32) × (Nat → Int32) × (Nat → Int32) × (Nat → Int32) × (Nat → Int32) × Int32 × Int32 × Int32 × Int32 × (Nat → Int32) × (Nat → Int32) × Int32 × (Nat → Int32)) :=
  if hq_I f_level 41 = true then
    if (a_distinct f_level.toNatClampNeg) = 0 then
      if l3 = 1 then
        sm_notice_J96 l1 l3 f_level a_parent f_objects a_kindOf a_size a_root a_slotKind a_slot a_kept f_count a_code a_number f_want f_rowCount a_rowKind a_rowValue f_many a_list f_seen f_fail f_level a_from a_eAt a_whereAt a_source a_distinct a_keeps f_at f_self f_brackets f_values a_vKind a_v f_waiting a_waits
      else
        sm_notice_J101 l1 l3 f_level 0 a_parent f_objects a_kindOf a_size a_root a_slotKind a_slot a_kept f_count a_code a_number f_want f_rowCount a_rowKind a_rowValue f_many a_list f_seen f_fail f_level a_from a_eAt a_whereAt a_source a_distinct a_keeps f_at f_self f_brackets f_values a_vKind a_v f_waiting a_waits
    else
      sm_notice_J96 l1 l3 f_level a_parent f_objects a_kindOf a_size a_root a_slotKind a_slot a_kept f_count a_code a_number f_want f_rowCount a_rowKind a_rowValue f_many a_list f_seen f_fail f_level a_from a_eAt a_whereAt a_source a_distinct a_keeps f_at f_self f_brackets f_values a_vKind a_v f_waiting a_waits
  else none
def sm_notice (l1 : Int32) (l2 : Int32) (a_parent : Nat → Int32) (f_objects : Int32) (a_kindOf : Nat → Int32) (a_size : Nat → Int32) (a_root : Nat → Int32) (a_slotKind : Nat → Int32) (a_slot : Nat → Int32) (a_kept : Nat → Int32) (f_count : Int32) (a_code : Nat → Int32) (a_number : Nat → Int32) (f_want : Int32) (f_rowCount : Int32) (a_rowKind : Nat → Int32) (a_rowValue : Nat → Int32) (f_many : Int32) (a_list : Nat → Int32) (f_seen : Int32) (f_fail : Int32) (f_level : Int32) (a_from : Nat → Int32) (a_eAt : Nat → Int32) (a_whereAt : Nat → Int32) (a_source : Nat → Int32) (a_distinct : Nat → Int32) (a_keeps : Nat → Int32) (f_at : Int32) (f_self : Int32) (f_brackets : Int32) (f_values : Int32) (a_vKind : Nat → Int32) (a_v : Nat → Int32) (f_waiting : Int32) (a_waits : Nat → Int32) : Option (Int32 × (Nat → Int32) × (Nat → Int32) × Int32 × (Nat → Int32) × Int32 × Int32 × Int32 × (Nat → Int32) × (Nat → Int32) × (Nat → Int32) × (Nat → Int32) × (Nat → Int32) × (Nat → Int32) × Int32 × Int32 × Int32 × Int32 × (Nat → Int32) × (Nat → Int32) × Int32 × (Nat → Int32)) :=
  if hq_I l1 40 = true then
    if l2 = 0 then
      if hq_I f_level 41 = true then
        if hq_I f_level 41 = true then
          if hq_I f_level 41 = true then
            if hq_I f_level 41 = true then
              some ((f_rowCount, a_rowKind, a_rowValue, f_many, a_list, f_seen, f_fail, f_level, a_from, upd a_eAt f_level.toNatClampNeg (l1 + 1), upd a_whereAt f_level.toNatClampNeg (-1), a_source, upd a_distinct f_level.toNatClampNeg 0, upd a_keeps f_level.toNatClampNeg 0, f_at, f_self, f_brackets, f_values, a_vKind, a_v, f_waiting, a_waits))
            else none
          else none
        else none
      else none
    else
      if 2 < l2 then
        sm_notice_J136 l1 l2 (a_code l1.toNatClampNeg) a_parent f_objects a_kindOf a_size a_root a_slotKind a_slot a_kept f_count a_code a_number f_want f_rowCount a_rowKind a_rowValue f_many a_list f_seen f_fail f_level a_from a_eAt a_whereAt a_source a_distinct a_keeps f_at f_self f_brackets f_values a_vKind a_v f_waiting a_waits
      else
        if (a_code l1.toNatClampNeg) = 1 then
          sm_notice_J71 l1 (a_code l1.toNatClampNeg) a_parent f_objects a_kindOf a_size a_root a_slotKind a_slot a_kept f_count a_code a_number f_want f_rowCount a_rowKind a_rowValue f_many a_list f_seen f_fail f_level a_from a_eAt a_whereAt a_source a_distinct a_keeps f_at f_self f_brackets f_values a_vKind a_v f_waiting a_waits
        else
          if (a_code l1.toNatClampNeg) = 2 then
            sm_notice_J71 l1 (a_code l1.toNatClampNeg) a_parent f_objects a_kindOf a_size a_root a_slotKind a_slot a_kept f_count a_code a_number f_want f_rowCount a_rowKind a_rowValue f_many a_list f_seen f_fail f_level a_from a_eAt a_whereAt a_source a_distinct a_keeps f_at f_self f_brackets f_values a_vKind a_v f_waiting a_waits
          else
            sm_notice_J136 l1 l2 (a_code l1.toNatClampNeg) a_parent f_objects a_kindOf a_size a_root a_slotKind a_slot a_kept f_count a_code a_number f_want f_rowCount a_rowKind a_rowValue f_many a_list f_seen f_fail f_level a_from a_eAt a_whereAt a_source a_distinct a_keeps f_at f_self f_brackets f_values a_vKind a_v f_waiting a_waits
  else none
def sm_run_J121 (s1 : Int32) (a_parent : Nat → Int32) (f_objects : Int32) (a_kindOf : Nat → Int32) (a_size : Nat → Int32) (a_root : Nat → Int32) (a_slotKind : Nat → Int32) (a_slot : Nat → Int32) (a_kept : Nat → Int32) (f_count : Int32) (a_code : Nat → Int32) (a_number : Nat → Int32) (f_want : Int32) (f_compared : Int32) (f_open : Int32) (a_opened : Nat → Int32) (f_rowCount : Int32) (a_rowKind : Nat → Int32) (a_rowValue : Nat → Int32) (f_many : Int32) (a_list : Nat → Int32) (f_seen : Int32) (f_fail : Int32) (f_level : Int32) (a_from : Nat → Int32) (a_eAt : Nat → Int32) (a_whereAt : Nat → Int32) (a_source : Nat → Int32) (a_distinct : Nat → Int32) (a_keeps : Nat → Int32) (f_at : Int32) (f_self : Int32) (f_brackets : Int32) (f_values : Int32) (a_vKind : Nat → Int32) (a_v : Nat → Int32) (f_waiting : Int32) (a_waits : Nat → Int32) : Option (Int32 × (Nat → Int32) × Int32 × Int32 × Int32 × (Nat → Int32) × Int32 × (Nat → Int32) × (Nat → Int32) × Int32 × (Nat → Int32) × Int32 × Int32 × Int32 × (Nat → Int32) × (Nat → Int32) × (Nat → Int32) × (Nat → Int32) × (Nat → Int32) × (Nat → Int32) × Int32 × Int32 × Int32 × Int32 × (Nat → Int32) × (Nat → Int32) × Int32 × (Nat → Int32)) :=
  if f_fail = 0 then
    some (s1, a_kept, f_want, f_compared, f_open, a_opened, s1, a_rowKind, a_rowValue, f_many, a_list, f_seen, f_fail, f_level, a_from, a_eAt, a_whereAt, a_source, a_distinct, a_keeps, f_at, f_self, f_brackets, f_values, a_vKind, a_v, f_waiting, a_waits)
  else
    some (f_fail, a_kept, f_want, f_compared, f_open, a_opened, s1, a_rowKind, a_rowValue, f_many, a_list, f_seen, f_fail, f_level, a_from, a_eAt, a_whereAt, a_source, a_distinct, a_keeps, f_at, f_self, f_brackets, f_values, a_vKind, a_v, f_waiting, a_waits)
def sm_run_J105 (a_parent : Nat → Int32) (f_objects : Int32) (a_kindOf : Nat → Int32) (a_size : Nat → Int32) (a_root : Nat → Int32) (a_slotKind : Nat → Int32) (a_slot : Nat → Int32) (a_kept : Nat → Int32) (f_count : Int32) (a_code : Nat → Int32) (a_number : Nat → Int32) (f_want : Int32) (f_compared : Int32) (f_open : Int32) (a_opened : Nat → Int32) (f_rowCount : Int32) (a_rowKind : Nat → Int32) (a_rowValue : Nat → Int32) (f_many : Int32) (a_list : Nat → Int32) (f_seen : Int32) (f_fail : Int32) (f_level : Int32) (a_from : Nat → Int32) (a_eAt : Nat → Int32) (a_whereAt : Nat → Int32) (a_source : Nat → Int32) (a_distinct : Nat → Int32) (a_keeps : Nat → Int32) (f_at : Int32) (f_self : Int32) (f_brackets : Int32) (f_values : Int32) (a_vKind : Nat → Int32) (a_v : Nat → Int32) (f_waiting : Int32) (a_waits : Nat → Int32) : Option (Int32 × (Nat → Int32) × Int32 × Int32 × Int32 × (Nat → Int32) × Int32 × (Nat → Int32) × (Nat → Int32) × Int32 × (Nat → Int32) × Int32 × Int32 × Int32 × (Nat → Int32) × (Nat → Int32) × (Nat → Int32) × (Nat → Int32) × (Nat → Int32) × (Nat → Int32) × Int32 × Int32 × Int32 × Int32 × (Nat → Int32) × (Nat → Int32) × Int32 × (Nat → Int32)) :=
  if f_fail = 0 then
    sm_run_J121 f_rowCount a_parent f_objects a_kindOf a_size a_root a_slotKind a_slot a_kept f_count a_code a_number f_want f_compared f_open a_opened f_rowCount a_rowKind a_rowValue f_many a_list f_seen f_fail f_level a_from a_eAt a_whereAt a_source a_distinct a_keeps f_at f_self f_brackets f_values a_vKind a_v f_waiting a_waits
  else
    sm_run_J121 0 a_parent f_objects a_kindOf a_size a_root a_slotKind a_slot a_kept f_count a_code a_number f_want f_compared f_open a_opened f_rowCount a_rowKind a_rowValue f_many a_list f_seen f_fail f_level a_from a_eAt a_whereAt a_source a_distinct a_keeps f_at f_self f_brackets f_values a_vKind a_v f_waiting a_waits
def sm_run_L62_B (rec : Int32 → (Nat → Int32) → Int32 → (Nat → Int32) → (Nat → Int32) → (Nat → Int32) → (Nat → Int32) → (Nat → Int32) → (Nat → Int32) → Int32 → (Nat → Int32) → (Nat → Int32) → Int32 → Int32 → Int32 → (Nat → Int32) → Int32 → (Nat → Int32) → (Nat → Int32) → Int32 → (Nat → Int32) → Int32 → Int32 → Int32 → (Nat → Int32) → (Nat → Int32) → (Nat → Int32) → (Nat → Int32) → (Nat → Int32) → (Nat → Int32) → Int32 → Int32 → Int32 → Int32 → (Nat → Int32) → (Nat → Int32) → Int32 → (Nat → Int32) → Option (Int32 × Int32 × Int32 × (Nat → Int32) × Int32 × (Nat → Int32) × (Nat → Int32) × Int32 × (Nat → Int32) × Int32 × Int32 × Int32 × (Nat → Int32) × (Nat → Int32) × (Nat → Int32) × (Nat → Int32) × (Nat → Int32) × (Nat → Int32) × Int32 × Int32 × Int32 × Int32 × (Nat → Int32) × (Nat → Int32) × Int32 × (Nat → Int32))) (l1 : Int32) (a_parent : Nat → Int32) (f_objects : Int32) (a_kindOf : Nat → Int32) (a_size : Nat → Int32) (a_root : Nat → Int32) (a_slotKind : Nat → Int32) (a_slot : Nat → Int32) (a_kept : Nat → Int32) (f_count : Int32) (a_code : Nat → Int32) (a_number : Nat → Int32) (f_want : Int32) (f_compared : Int32) (f_open : Int32) (a_opened : Nat → Int32) (f_rowCount : Int32) (a_rowKind : Nat → Int32) (a_rowValue : Nat → Int32) (f_many : Int32) (a_list : Nat → Int32) (f_seen : Int32) (f_fail : Int32) (f_level : Int32) (a_from : Nat → Int32) (a_eAt : Nat → Int32) (a_whereAt : Nat → Int32) (a_source : Nat → Int32) (a_distinct : Nat → Int32) (a_keeps : Nat → Int32) (f_at : Int32) (f_self : Int32) (f_brackets : Int32) (f_values : Int32) (a_vKind : Nat → Int32) (a_v : Nat → Int32) (f_waiting : Int32) (a_waits : Nat → Int32) : Option (Int32 × Int32 × Int32 × (Nat → Int32) × Int32 × (Nat → Int32) × (Nat → Int32) × Int32 × (Nat → Int32) × Int32 × Int32 × Int32 × (Nat → Int32) × (Nat → Int32) × (Nat → Int32) × (Nat → Int32) × (Nat → Int32) × (Nat → Int32) × Int32 × Int32 × Int32 × Int32 × (Nat → Int32) × (Nat → Int32) × Int32 × (Nat → Int32)) :=
  if f_count ≤ l1 then
    some (f_want, f_compared, f_open, a_opened, f_rowCount, a_rowKind, a_rowValue, f_many, a_list, f_seen, f_fail, f_level, a_from, a_eAt, a_whereAt, a_source, a_distinct, a_keeps, f_at, f_self, f_brackets, f_values, a_vKind, a_v, f_waiting, a_waits)
  else
    if f_fail = 0 then
      if hq_I l1 40 = true then
        (sm_step (a_code l1.toNatClampNeg) f_want f_compared f_open a_opened).bind fun v89 =>
          (sm_notice l1 f_want a_parent f_objects a_kindOf a_size a_root a_slotKind a_slot a_kept f_count a_code a_number v89.2.1 f_rowCount a_rowKind a_rowValue f_many a_list f_seen f_fail f_level a_from a_eAt a_whereAt a_source a_distinct a_keeps f_at f_self f_brackets f_values a_vKind a_v f_waiting a_waits).bind fun v96 =>
            rec (l1 + 1) a_parent f_objects a_kindOf a_size a_root a_slotKind a_slot a_kept f_count a_code a_number v89.2.1 v89.2.2.1 v89.2.2.2.1 v89.2.2.2.2 v96.1 v96.2.1 v96.2.2.1 v96.2.2.2.1 v96.2.2.2.2.1 v96.2.2.2.2.2.1 v96.2.2.2.2.2.2.1 v96.2.2.2.2.2.2.2.1 v96.2.2.2.2.2.2.2.2.1 v96.2.2.2.2.2.2.2.2.2.1 v96.2.2.2.2.2.2.2.2.2.2.1 v96.2.2.2.2.2.2.2.2.2.2.2.1 v96.2.2.2.2.2.2.2.2.2.2.2.2.1 v96.2.2.2.2.2.2.2.2.2.2.2.2.2.1 v96.2.2.2.2.2.2.2.2.2.2.2.2.2.2.1 v96.2.2.2.2.2.2.2.2.2.2.2.2.2.2.2.1 v96.2.2.2.2.2.2.2.2.2.2.2.2.2.2.2.2.1 v96.2.2.2.2.2.2.2.2.2.2.2.2.2.2.2.2.2.1 v96.2.2.2.2.2.2.2.2.2.2.2.2.2.2.2.2.2.2.1 v96.2.2.2.2.2.2.2.2.2.2.2.2.2.2.2.2.2.2.2.1 v96.2.2.2.2.2.2.2.2.2.2.2.2.2.2.2.2.2.2.2.2.1 v96.2.2.2.2.2.2.2.2.2.2.2.2.2.2.2.2.2.2.2.2.2
      else none
    else
      some (f_want, f_compared, f_open, a_opened, f_rowCount, a_rowKind, a_rowValue, f_many, a_list, f_seen, f_fail, f_level, a_from, a_eAt, a_whereAt, a_source, a_distinct, a_keeps, f_at, f_self, f_brackets, f_values, a_vKind, a_v, f_waiting, a_waits)
def sm_run_L62 : Nat → Int32 → (Nat → Int32) → Int32 → (Nat → Int32) → (Nat → Int32) → (Nat → Int32) → (Nat → Int32) → (Nat → Int32) → (Nat → Int32) → Int32 → (Nat → Int32) → (Nat → Int32) → Int32 → Int32 → Int32 → (Nat → Int32) → Int32 → (Nat → Int32) → (Nat → Int32) → Int32 → (Nat → Int32) → Int32 → Int32 → Int32 → (Nat → Int32) → (Nat → Int32) → (Nat → Int32) → (Nat → Int32) → (Nat → Int32) → (Nat → Int32) → Int32 → Int32 → Int32 → Int32 → (Nat → Int32) → (Nat → Int32) → Int32 → (Nat → Int32) → Option (Int32 × Int32 × Int32 × (Nat → Int32) × Int32 × (Nat → Int32) × (Nat → Int32) × Int32 × (Nat → Int32) × Int32 × Int32 × Int32 × (Nat → Int32) × (Nat → Int32) × (Nat → Int32) × (Nat → Int32) × (Nat → Int32) × (Nat → Int32) × Int32 × Int32 × Int32 × Int32 × (Nat → Int32) × (Nat → Int32) × Int32 × (Nat → Int32))
  | 0 => fun _ _ _ _ _ _ _ _ _ _ _ _ _ _ _ _ _ _ _ _ _ _ _ _ _ _ _ _ _ _ _ _ _ _ _ _ _ _ => none
  | n + 1 => sm_run_L62_B (sm_run_L62 n)
def sm_run (a_parent : Nat → Int32) (f_objects : Int32) (a_kindOf : Nat → Int32) (a_size : Nat → Int32) (a_root : Nat → Int32) (a_slotKind : Nat → Int32) (a_slot : Nat → Int32) (a_kept : Nat → Int32) (f_count : Int32) (a_code : Nat → Int32) (a_number : Nat → Int32) (f_want : Int32) (f_compared : Int32) (f_open : Int32) (a_opened : Nat → Int32) (f_rowCount : Int32) (a_rowKind : Nat → Int32) (a_rowValue : Nat → Int32) (f_many : Int32) (a_list : Nat → Int32) (f_seen : Int32) (f_fail : Int32) (f_level : Int32) (a_from : Nat → Int32) (a_eAt : Nat → Int32) (a_whereAt : Nat → Int32) (a_source : Nat → Int32) (a_distinct : Nat → Int32) (a_keeps : Nat → Int32) (f_at : Int32) (f_self : Int32) (f_brackets : Int32) (f_values : Int32) (a_vKind : Nat → Int32) (a_v : Nat → Int32) (f_waiting : Int32) (a_waits : Nat → Int32) : Option (Int32 × (Nat → Int32) × Int32 × Int32 × Int32 × (Nat → Int32) × Int32 × (Nat → Int32) × (Nat → Int32) × Int32 × (Nat → Int32) × Int32 × Int32 × Int32 × (Nat → Int32) × (Nat → Int32) × (Nat → Int32) × (Nat → Int32) × (Nat → Int32) × (Nat → Int32) × Int32 × Int32 × Int32 × Int32 × (Nat → Int32) × (Nat → Int32) × Int32 × (Nat → Int32)) :=
  if f_count = 0 then
    some (((-1), a_kept, f_want, f_compared, f_open, a_opened, f_rowCount, a_rowKind, a_rowValue, f_many, a_list, f_seen, f_fail, f_level, a_from, a_eAt, a_whereAt, a_source, a_distinct, a_keeps, f_at, f_self, f_brackets, f_values, a_vKind, a_v, f_waiting, a_waits))
  else
    if hq_I (f_count - 1) 40 = true then
      if (a_code (f_count - 1).toNatClampNeg) = 24 then
        if hq_I (0 : Int32) 41 = true then
          (sm_keepSets f_objects a_root a_slotKind a_slot a_kept).bind fun v53 =>
            (sm_run_L62 kF 0 a_parent f_objects a_kindOf a_size a_root a_slotKind a_slot v53 f_count a_code a_number ((sm_start f_want f_compared f_open).1) ((sm_start f_want f_compared f_open).2.1) ((sm_start f_want f_compared f_open).2.2) a_opened 0 a_rowKind a_rowValue f_many a_list 0 0 0 (upd a_from (0 : Int32).toNatClampNeg 0) a_eAt a_whereAt a_source a_distinct a_keeps f_at f_self f_brackets f_values a_vKind a_v f_waiting a_waits).bind fun u62 =>
              sm_run_J105 a_parent f_objects a_kindOf a_size a_root a_slotKind a_slot v53 f_count a_code a_number u62.1 u62.2.1 u62.2.2.1 u62.2.2.2.1 u62.2.2.2.2.1 u62.2.2.2.2.2.1 u62.2.2.2.2.2.2.1 u62.2.2.2.2.2.2.2.1 u62.2.2.2.2.2.2.2.2.1 u62.2.2.2.2.2.2.2.2.2.1 u62.2.2.2.2.2.2.2.2.2.2.1 u62.2.2.2.2.2.2.2.2.2.2.2.1 u62.2.2.2.2.2.2.2.2.2.2.2.2.1 u62.2.2.2.2.2.2.2.2.2.2.2.2.2.1 u62.2.2.2.2.2.2.2.2.2.2.2.2.2.2.1 u62.2.2.2.2.2.2.2.2.2.2.2.2.2.2.2.1 u62.2.2.2.2.2.2.2.2.2.2.2.2.2.2.2.2.1 u62.2.2.2.2.2.2.2.2.2.2.2.2.2.2.2.2.2.1 u62.2.2.2.2.2.2.2.2.2.2.2.2.2.2.2.2.2.2.1 u62.2.2.2.2.2.2.2.2.2.2.2.2.2.2.2.2.2.2.2.1 u62.2.2.2.2.2.2.2.2.2.2.2.2.2.2.2.2.2.2.2.2.1 u62.2.2.2.2.2.2.2.2.2.2.2.2.2.2.2.2.2.2.2.2.2.1 u62.2.2.2.2.2.2.2.2.2.2.2.2.2.2.2.2.2.2.2.2.2.2.1 u62.2.2.2.2.2.2.2.2.2.2.2.2.2.2.2.2.2.2.2.2.2.2.2.1 u62.2.2.2.2.2.2.2.2.2.2.2.2.2.2.2.2.2.2.2.2.2.2.2.2.1 u62.2.2.2.2.2.2.2.2.2.2.2.2.2.2.2.2.2.2.2.2.2.2.2.2.2
        else none
      else
        some (((-1), a_kept, f_want, f_compared, f_open, a_opened, f_rowCount, a_rowKind, a_rowValue, f_many, a_list, f_seen, f_fail, f_level, a_from, a_eAt, a_whereAt, a_source, a_distinct, a_keeps, f_at, f_self, f_brackets, f_values, a_vKind, a_v, f_waiting, a_waits))
    else none
def sm_rows (f_rowCount : Int32) : Int32 :=
  f_rowCount
def sm_row (l1 : Int32) (f_rowCount : Int32) : Int32 :=
  if l1 < 0 then
    0
  else
    if f_rowCount ≤ l1 then
      0
    else
      1
def sm_kind (l1 : Int32) (f_rowCount : Int32) (a_rowKind : Nat → Int32) : Option (Int32) :=
  if (sm_row l1 f_rowCount) = 0 then
    some (-1)
  else
    if hq_I l1 200 = true then
      some (a_rowKind l1.toNatClampNeg)
    else none
def sm_value (l1 : Int32) (f_rowCount : Int32) (a_rowValue : Nat → Int32) : Option (Int32) :=
  if (sm_row l1 f_rowCount) = 0 then
    some 0
  else
    if hq_I l1 200 = true then
      some (a_rowValue l1.toNatClampNeg)
    else none
def sm_looked (f_seen : Int32) : Int32 :=
  f_seen
def sxc_valueOfLeaf (l1 : Int32) (n_code : Int32) (n_number : Int32) : Int64 :=
  if n_code = 10 then
    (sxv_number n_number)
  else
    if n_code = 12 then
      (sxv_link l1)
    else
      0
def sxv_isError (l0 : Int64) : Int32 :=
  if (lg_cmp ((l0.toUInt64 >>> ((32 : Int32).toInt64.toUInt64 &&& Int64.toUInt64 63)).toInt64) 3) = 0 then
    1
  else
    0
def sxv_error (l0 : Int32) : Int64 :=
  12884901888 ||| (l0.toInt64 &&& 4294967295)
def sxv_flag (l0 : Int32) : Int64 :=
  if l0 = 0 then
    4294967296
  else
    4294967297
def sxv_truthOf (l0 : Int64) : Int64 :=
  if (sxv_isError l0) = 0 then
    if (sxv_isLink l0) = 0 then
      if (lg_cmp l0 0) = 0 then
        (sxv_flag 0)
      else
        if (lg_cmp l0 4294967296) = 0 then
          (sxv_flag 0)
        else
          (sxv_flag 1)
    else
      (sxv_error (-3))
  else
    l0
def sxv_isEmpty (l0 : Int64) : Int32 :=
  if (lg_cmp l0 0) = 0 then
    1
  else
    0
def sxh_classOf (l1 : Int32) (ha_classes : Nat → Int32) : Option (Int32) :=
  if hq_I l1 24 = true then
    some (ha_classes l1.toNatClampNeg)
  else none
def sxs_linkCountOf (l1 : Int32) (sa_linkCounts : Nat → Int32) : Option (Int32) :=
  if hq_I l1 24 = true then
    some (sa_linkCounts l1.toNatClampNeg)
  else none
def sxc_factOf (l1 : Int32) (l2 : Int32) (ha_classes : Nat → Int32) (ha_sizes : Nat → Int32) (sa_linkCounts : Nat → Int32) (sa_retainedSizes : Nat → Int32) (sa_immediateDominators : Nat → Int32) : Option (Int64) :=
  if l2 = 0 then
    some (sxv_number l1)
  else
    if l2 = 1 then
      (sxh_classOf l1 ha_classes).bind fun v47 =>
        some (sxv_number v47)
    else
      if l2 = 2 then
        (sxh_sizeOf l1 ha_sizes).bind fun v56 =>
          some (sxv_number v56)
      else
        if l2 = 3 then
          (sxs_retainedSizeOf l1 sa_retainedSizes).bind fun v68 =>
            some (sxv_number v68)
        else
          if l2 = 4 then
            (sxs_immediateDominatorOf l1 sa_immediateDominators).bind fun v80 =>
              if v80 = (-1) then
                some 0
              else
                some (sxv_link v80)
          else
            if l2 = 5 then
              (sxs_linkCountOf l1 sa_linkCounts).bind fun v103 =>
                some (sxv_number v103)
            else
              some 0
def sxc_valueOfUnary (l2 : Int64) (ha_classes : Nat → Int32) (ha_sizes : Nat → Int32) (ha_fields : Nat → Int64) (hf_objectCount : Int32) (sa_linkCounts : Nat → Int32) (sa_retainedSizes : Nat → Int32) (sa_immediateDominators : Nat → Int32) (n_code : Int32) (n_number : Int32) : Option (Int64) :=
  if n_code = 17 then
    if ((sxv_isError (sxv_truthOf l2))) = 0 then
      if (lg_cmp (sxv_truthOf l2) 4294967296) = 0 then
        some (sxv_flag 1)
      else
        some (sxv_flag 0)
    else
      some (sxv_truthOf l2)
  else
    if (sxv_isEmpty l2) = 0 then
      if (sxv_isLink l2) = 0 then
        some ((sxv_error (-2)))
      else
        if ((sxh_hasObject (sxv_contentOf l2) hf_objectCount)) = 0 then
          some ((sxv_error (-2)))
        else
          if n_code = 13 then
            (sxh_fieldOf (sxv_contentOf l2) n_number ha_fields).bind fun v99 =>
              some v99
          else
            (sxc_factOf (sxv_contentOf l2) n_number ha_classes ha_sizes sa_linkCounts sa_retainedSizes sa_immediateDominators).bind fun v112 =>
              some v112
    else
      some 0
def sxc_settles_J42 (s0 : Int64) (s1 : Int64) : Int32 :=
  if (lg_cmp s0 s1) = 0 then
    1
  else
    0
def sxc_settles_J14 (l0 : Int32) (l1 : Int64) : Int32 :=
  if ((sxv_isError (sxv_truthOf l1))) = 0 then
    if l0 = 15 then
      sxc_settles_J42 (sxv_truthOf l1) 4294967297
    else
      sxc_settles_J42 (sxv_truthOf l1) 4294967296
  else
    1
def sxc_settles (l0 : Int32) (l1 : Int64) : Int32 :=
  if l0 = 16 then
    sxc_settles_J14 l0 l1
  else
    if l0 = 15 then
      sxc_settles_J14 l0 l1
    else
      0
def sxc_valueOfArithmetic_J34 (l0 : Int32) : Int64 :=
  if l0 = 20 then
    4294967296
  else
    0
def sxc_valueOfArithmetic (l0 : Int32) (l1 : Int64) (l3 : Int64) : Int64 :=
  if (sxv_isLink l1) = 0 then
    if (sxv_isLink l3) = 0 then
      if (sxv_isEmpty l1) = 0 then
        if (sxv_isEmpty l3) = 0 then
          if l0 = 20 then
            if (sxv_contentOf l3) ≤ (sxv_contentOf l1) then
              (sxv_flag 0)
            else
              (sxv_flag 1)
          else
            if l0 = 21 then
              (sxv_number ((sxv_contentOf l1) + (sxv_contentOf l3)))
            else
              if l0 = 22 then
                (sxv_number ((sxv_contentOf l1) - (sxv_contentOf l3)))
              else
                (sxv_number ((sxv_contentOf l1) * (sxv_contentOf l3)))
        else
          sxc_valueOfArithmetic_J34 l0
      else
        sxc_valueOfArithmetic_J34 l0
    else
      (sxv_error (-3))
  else
    (sxv_error (-3))
def sxc_valueOfBinary (l0 : Int32) (l1 : Int64) (l3 : Int64) : Int64 :=
  if l0 = 15 then
    (sxv_truthOf l3)
  else
    if l0 = 16 then
      (sxv_truthOf l3)
    else
      if l0 = 17 then
        (sxc_valueOfArithmetic l0 l1 l3)
      else
        if l0 = 18 then
          if (lg_cmp l1 l3) = 0 then
            (sxv_flag 1)
          else
            (sxv_flag 0)
        else
          if l0 = 19 then
            if (lg_cmp l1 l3) = 0 then
              (sxv_flag 0)
            else
              (sxv_flag 1)
          else
            (sxc_valueOfArithmetic l0 l1 l3)
def sxh_isInstance_L10_B (rec : Int32 → Int32 → Int32 → (Nat → Int32) → (Nat → Int32) → Option (Int32)) (l2 : Int32) (l3 : Int32) (l4 : Int32) (ha_parents : Nat → Int32) (ha_classes : Nat → Int32) : Option (Int32) :=
  if 8 ≤ l4 then
    some 0
  else
    if l3 = (-1) then
      some 0
    else
      if l3 = l2 then
        some 1
      else
        if hq_I l3 8 = true then
          rec l2 (ha_parents l3.toNatClampNeg) (l4 + 1) ha_parents ha_classes
        else none
def sxh_isInstance_L10 : Nat → Int32 → Int32 → Int32 → (Nat → Int32) → (Nat → Int32) → Option (Int32)
  | 0 => fun _ _ _ _ _ => none
  | n + 1 => sxh_isInstance_L10_B (sxh_isInstance_L10 n)
def sxh_isInstance (l1 : Int32) (l2 : Int32) (ha_parents : Nat → Int32) (ha_classes : Nat → Int32) : Option (Int32) :=
  if hq_I l1 24 = true then
    sxh_isInstance_L10 kF l2 (ha_classes l1.toNatClampNeg) 0 ha_parents ha_classes
  else none
def sxt_codeAt (l1 : Int32) (ta_codes : Nat → Int32) (tf_count : Int32) : Option (Int32) :=
  if l1 < 0 then
    some 24
  else
    if tf_count ≤ l1 then
      some 24
    else
      if hq_I l1 40 = true then
        some (ta_codes l1.toNatClampNeg)
      else none
def sxt_numberAt (l1 : Int32) (ta_numbers : Nat → Int32) (tf_count : Int32) : Option (Int32) :=
  if l1 < 0 then
    some 0
  else
    if tf_count ≤ l1 then
      some 0
    else
      if hq_I l1 40 = true then
        some (ta_numbers l1.toNatClampNeg)
      else none
def sxt_forget (tf_count : Int32) (tf_bracketCount : Int32) (tf_place : Int32) : Int32 × Int32 × Int32 :=
  (0, 0, 0)
def sxt_placeInS (l1 : Int32) : Int32 :=
  if l1 = 6 then
    3
  else
    if l1 = 7 then
      (-1)
    else
      if l1 = 8 then
        (-1)
      else
        if l1 = 9 then
          (-1)
        else
          if l1 = 10 then
            5
          else
            if l1 = 11 then
              5
            else
              if l1 = 12 then
                5
              else
                (-1)
def sxt_placeAfterDistinct (l1 : Int32) : Int32 :=
  if l1 = 2 then
    3
  else
    if l1 = 17 then
      3
    else
      (sxt_placeInS l1)
def sxt_isInsideE (ta_brackets : Nat → Int32) (tf_bracketCount : Int32) : Option (Int32) :=
  if tf_bracketCount ≤ 0 then
    some 0
  else
    if hq_I (tf_bracketCount - 1) 40 = true then
      if (ta_brackets (tf_bracketCount - 1).toNatClampNeg) = 0 then
        some 0
      else
        some 1
    else none
def sxt_placeAfterWholeSelect (l1 : Int32) (tf_bracketCount : Int32) : Int32 :=
  if l1 = 5 then
    0
  else
    if l1 = 7 then
      if tf_bracketCount ≤ 0 then
        (-1)
      else
        7
    else
      if l1 = 24 then
        if tf_bracketCount = 0 then
          8
        else
          (-1)
      else
        (-1)
def sxt_placeAfterE (l1 : Int32) (ta_brackets : Nat → Int32) (tf_bracketCount : Int32) (tf_inWhere : Int32) : Option (Int32) :=
  (sxt_isInsideE ta_brackets tf_bracketCount).bind fun v1 =>
    if v1 = 0 then
      if tf_inWhere = 0 then
        if l1 = 3 then
          some 6
        else
          some (-1)
      else
        some (sxt_placeAfterWholeSelect l1 tf_bracketCount)
    else
      if l1 = 7 then
        some 5
      else
        some (-1)
def sxt_placeAfterU_J64 (ta_brackets : Nat → Int32) (tf_bracketCount : Int32) (tf_inWhere : Int32) (tf_compared : Int32) : Option (Int32) :=
  if tf_compared = 0 then
    some 4
  else
    some (-1)
def sxt_placeAfterU (l1 : Int32) (ta_brackets : Nat → Int32) (tf_bracketCount : Int32) (tf_inWhere : Int32) (tf_compared : Int32) : Option (Int32) :=
  if l1 = 13 then
    some 5
  else
    if l1 = 14 then
      some 5
    else
      if l1 = 15 then
        some 3
      else
        if l1 = 16 then
          some 3
        else
          if l1 = 17 then
            (sxt_placeAfterE l1 ta_brackets tf_bracketCount tf_inWhere).bind fun v81 =>
              some v81
          else
            if l1 = 18 then
              sxt_placeAfterU_J64 ta_brackets tf_bracketCount tf_inWhere tf_compared
            else
              if l1 = 19 then
                sxt_placeAfterU_J64 ta_brackets tf_bracketCount tf_inWhere tf_compared
              else
                if l1 = 20 then
                  sxt_placeAfterU_J64 ta_brackets tf_bracketCount tf_inWhere tf_compared
                else
                  if l1 = 21 then
                    some 4
                  else
                    if l1 = 22 then
                      some 4
                    else
                      if l1 = 23 then
                        some 4
                      else
                        (sxt_placeAfterE l1 ta_brackets tf_bracketCount tf_inWhere).bind fun v81 =>
                          some v81
def sxt_placeInSource (l1 : Int32) : Int32 :=
  if l1 = 6 then
    0
  else
    if l1 = 7 then
      (-1)
    else
      if l1 = 8 then
        7
      else
        if l1 = 9 then
          7
        else
          (-1)
def sxt_placeAfter (l1 : Int32) (ta_brackets : Nat → Int32) (tf_bracketCount : Int32) (tf_place : Int32) (tf_inWhere : Int32) (tf_compared : Int32) : Option (Int32) :=
  if tf_place = 0 then
    if l1 = 0 then
      some 1
    else
      some (-1)
  else
    if tf_place = 1 then
      if l1 = 1 then
        some 2
      else
        some (sxt_placeAfterDistinct l1)
    else
      if tf_place = 2 then
        some (sxt_placeAfterDistinct l1)
      else
        if tf_place = 3 then
          if l1 = 17 then
            some 3
          else
            some (sxt_placeInS l1)
        else
          if tf_place = 4 then
            some (sxt_placeInS l1)
          else
            if tf_place = 5 then
              (sxt_placeAfterU l1 ta_brackets tf_bracketCount tf_inWhere tf_compared).bind fun v107 =>
                some v107
            else
              if tf_place = 6 then
                some (sxt_placeInSource l1)
              else
                if tf_place = 7 then
                  if l1 = 4 then
                    some 3
                  else
                    some (sxt_placeAfterWholeSelect l1 tf_bracketCount)
                else
                  some (-1)
def sxt_openBracket_J45 (s1 : Int32) (s2 : Int32) (ta_brackets : Nat → Int32) (tf_bracketCount : Int32) (tf_place : Int32) (tf_compared : Int32) : Option ((Nat → Int32) × Int32 × Int32) :=
  if hq_I s1 40 = true then
    some (upd ta_brackets s1.toNatClampNeg s2, tf_bracketCount + 1, 0)
  else none
def sxt_openBracket_J22 (s0 : Int32) (ta_brackets : Nat → Int32) (tf_bracketCount : Int32) (tf_place : Int32) (tf_compared : Int32) : Option ((Nat → Int32) × Int32 × Int32) :=
  if tf_place = 6 then
    sxt_openBracket_J45 tf_bracketCount 0 ta_brackets tf_bracketCount tf_place tf_compared
  else
    sxt_openBracket_J45 tf_bracketCount s0 ta_brackets tf_bracketCount tf_place tf_compared
def sxt_openBracket (ta_brackets : Nat → Int32) (tf_bracketCount : Int32) (tf_place : Int32) (tf_compared : Int32) : Option ((Nat → Int32) × Int32 × Int32) :=
  if tf_bracketCount < 40 then
    if tf_compared = 0 then
      sxt_openBracket_J22 1 ta_brackets tf_bracketCount tf_place tf_compared
    else
      sxt_openBracket_J22 2 ta_brackets tf_bracketCount tf_place tf_compared
  else
    some (ta_brackets, tf_bracketCount, tf_compared)
def sxt_closeBracket (ta_brackets : Nat → Int32) (tf_bracketCount : Int32) (tf_compared : Int32) : Option (Int32 × Int32) :=
  if 0 < tf_bracketCount then
    if hq_I (tf_bracketCount - 1) 40 = true then
      if (ta_brackets (tf_bracketCount - 1).toNatClampNeg) = 2 then
        some (tf_bracketCount - 1, 1)
      else
        some (tf_bracketCount - 1, 0)
    else none
  else
    some (tf_bracketCount, tf_compared)
def sxt_remember_J111 (s1 : Int32) (ta_brackets : Nat → Int32) (tf_bracketCount : Int32) (tf_place : Int32) (tf_inWhere : Int32) (tf_compared : Int32) : Option ((Nat → Int32) × Int32 × Int32 × Int32) :=
  if s1 = 0 ∨ s1 = 1 then
    some (ta_brackets, tf_bracketCount, s1, 0)
  else none
def sxt_remember_J100 (l1 : Int32) (ta_brackets : Nat → Int32) (tf_bracketCount : Int32) (tf_place : Int32) (tf_inWhere : Int32) (tf_compared : Int32) : Option ((Nat → Int32) × Int32 × Int32 × Int32) :=
  if l1 = 4 then
    sxt_remember_J111 1 ta_brackets tf_bracketCount tf_place tf_inWhere tf_compared
  else
    sxt_remember_J111 0 ta_brackets tf_bracketCount tf_place tf_inWhere tf_compared
def sxt_remember (l1 : Int32) (ta_brackets : Nat → Int32) (tf_bracketCount : Int32) (tf_place : Int32) (tf_inWhere : Int32) (tf_compared : Int32) : Option ((Nat → Int32) × Int32 × Int32 × Int32) :=
  if l1 = 0 then
    sxt_remember_J100 l1 ta_brackets tf_bracketCount tf_place tf_inWhere tf_compared
  else
    if l1 = 1 then
      some (ta_brackets, tf_bracketCount, tf_inWhere, tf_compared)
    else
      if l1 = 2 then
        some (ta_brackets, tf_bracketCount, tf_inWhere, tf_compared)
      else
        if l1 = 3 then
          some (ta_brackets, tf_bracketCount, tf_inWhere, tf_compared)
        else
          if l1 = 4 then
            sxt_remember_J100 l1 ta_brackets tf_bracketCount tf_place tf_inWhere tf_compared
          else
            if l1 = 5 then
              some (ta_brackets, tf_bracketCount, tf_inWhere, tf_compared)
            else
              if l1 = 6 then
                (sxt_openBracket ta_brackets tf_bracketCount tf_place tf_compared).bind fun v139 =>
                  some (v139.1, v139.2.1, tf_inWhere, v139.2.2)
              else
                if l1 = 7 then
                  (sxt_closeBracket ta_brackets tf_bracketCount tf_compared).bind fun v146 =>
                    some (ta_brackets, v146.1, tf_inWhere, v146.2)
                else
                  if l1 = 8 then
                    some (ta_brackets, tf_bracketCount, tf_inWhere, tf_compared)
                  else
                    if l1 = 9 then
                      some (ta_brackets, tf_bracketCount, tf_inWhere, tf_compared)
                    else
                      if l1 = 10 then
                        some (ta_brackets, tf_bracketCount, tf_inWhere, tf_compared)
                      else
                        if l1 = 11 then
                          some (ta_brackets, tf_bracketCount, tf_inWhere, tf_compared)
                        else
                          if l1 = 12 then
                            some (ta_brackets, tf_bracketCount, tf_inWhere, tf_compared)
                          else
                            if l1 = 13 then
                              some (ta_brackets, tf_bracketCount, tf_inWhere, tf_compared)
                            else
                              if l1 = 14 then
                                some (ta_brackets, tf_bracketCount, tf_inWhere, tf_compared)
                              else
                                if l1 = 15 then
                                  some (ta_brackets, tf_bracketCount, tf_inWhere, 0)
                                else
                                  if l1 = 16 then
                                    some (ta_brackets, tf_bracketCount, tf_inWhere, 0)
                                  else
                                    if l1 = 17 then
                                      some (ta_brackets, tf_bracketCount, tf_inWhere, tf_compared)
                                    else
                                      if l1 = 18 then
                                        some (ta_brackets, tf_bracketCount, tf_inWhere, 1)
                                      else
                                        if l1 = 19 then
                                          some (ta_brackets, tf_bracketCount, tf_inWhere, 1)
                                        else
                                          if l1 = 20 then
                                            some (ta_brackets, tf_bracketCount, tf_inWhere, 1)
                                          else
                                            some (ta_brackets, tf_bracketCount, tf_inWhere, tf_compared)
def sxt_take (l1 : Int32) (l2 : Int32) (ta_codes : Nat → Int32) (ta_numbers : Nat → Int32) (tf_count : Int32) (ta_brackets : Nat → Int32) (tf_bracketCount : Int32) (tf_place : Int32) (tf_inWhere : Int32) (tf_compared : Int32) : Option (Int32 × (Nat → Int32) × (Nat → Int32) × Int32 × (Nat → Int32) × Int32 × Int32 × Int32 × Int32) :=
  (sxt_placeAfter l1 ta_brackets tf_bracketCount tf_place tf_inWhere tf_compared).bind fun v2 =>
    if 40 ≤ tf_count then
      some (0, ta_codes, ta_numbers, tf_count, ta_brackets, tf_bracketCount, tf_place, tf_inWhere, tf_compared)
    else
      if v2 = (-1) then
        some (0, ta_codes, ta_numbers, tf_count, ta_brackets, tf_bracketCount, tf_place, tf_inWhere, tf_compared)
      else
        if hq_I tf_count 40 = true then
          if hq_I tf_count 40 = true then
            (sxt_remember l1 ta_brackets tf_bracketCount tf_place tf_inWhere tf_compared).bind fun v54 =>
              some (1, upd ta_codes tf_count.toNatClampNeg l1, upd ta_numbers tf_count.toNatClampNeg l2, tf_count + 1, v54.1, v54.2.1, v2, v54.2.2.1, v54.2.2.2)
          else none
        else none
def sxv_isNumber (l0 : Int64) : Int32 :=
  if (lg_cmp ((l0.toUInt64 >>> ((32 : Int32).toInt64.toUInt64 &&& Int64.toUInt64 63)).toInt64) 1) = 0 then
    1
  else
    0
def sxw_begin (wf_count : Int32) (wf_looks : Int32) : Int32 × Int32 :=
  (0, 0)
def sxw_dropRows (wf_count : Int32) : Int32 :=
  0
def sxw_add (l1 : Int64) (wa_rows : Nat → Int64) (wf_count : Int32) : Option ((Nat → Int64) × Int32) :=
  if 192 ≤ wf_count then
    some (wa_rows, wf_count)
  else
    if hq_I wf_count 192 = true then
      some (vp_updL wa_rows wf_count.toNatClampNeg l1, wf_count + 1)
    else none
def sxw_addObjectsOfClass_J47 (rec : Int32 → Int32 → (Nat → Int32) → (Nat → Int32) → Int32 → (Nat → Int64) → Int32 → Int32 → Option ((Nat → Int64) × Int32)) (l3 : Int32) (l4 : Int32) (ha_parents : Nat → Int32) (ha_classes : Nat → Int32) (hf_objectCount : Int32) (wa_rows : Nat → Int64) (wf_count : Int32) (s_withDescendants : Int32) : Option ((Nat → Int64) × Int32) :=
  (sxw_add (sxv_link l4) wa_rows wf_count).bind fun v53 =>
    rec l3 (l4 + 1) ha_parents ha_classes hf_objectCount v53.1 v53.2 s_withDescendants
def sxw_addObjectsOfClass_L8_B (rec : Int32 → Int32 → (Nat → Int32) → (Nat → Int32) → Int32 → (Nat → Int64) → Int32 → Int32 → Option ((Nat → Int64) × Int32)) (l3 : Int32) (l4 : Int32) (ha_parents : Nat → Int32) (ha_classes : Nat → Int32) (hf_objectCount : Int32) (wa_rows : Nat → Int64) (wf_count : Int32) (s_withDescendants : Int32) : Option ((Nat → Int64) × Int32) :=
  if (sxh_size hf_objectCount) ≤ l4 then
    some (wa_rows, wf_count)
  else
    if s_withDescendants = 0 then
      (sxh_classOf l4 ha_classes).bind fun v40 =>
        if v40 = l3 then
          sxw_addObjectsOfClass_J47 rec l3 l4 ha_parents ha_classes hf_objectCount wa_rows wf_count s_withDescendants
        else
          rec l3 (l4 + 1) ha_parents ha_classes hf_objectCount wa_rows wf_count s_withDescendants
    else
      (sxh_isInstance l4 l3 ha_parents ha_classes).bind fun v28 =>
        if v28 = 0 then
          rec l3 (l4 + 1) ha_parents ha_classes hf_objectCount wa_rows wf_count s_withDescendants
        else
          sxw_addObjectsOfClass_J47 rec l3 l4 ha_parents ha_classes hf_objectCount wa_rows wf_count s_withDescendants
def sxw_addObjectsOfClass_L8 : Nat → Int32 → Int32 → (Nat → Int32) → (Nat → Int32) → Int32 → (Nat → Int64) → Int32 → Int32 → Option ((Nat → Int64) × Int32)
  | 0 => fun _ _ _ _ _ _ _ _ => none
  | n + 1 => sxw_addObjectsOfClass_L8_B (sxw_addObjectsOfClass_L8 n)
def sxw_addObjectsOfClass (ha_parents : Nat → Int32) (ha_classes : Nat → Int32) (hf_objectCount : Int32) (wa_rows : Nat → Int64) (wf_count : Int32) (s_sourceClass : Int32) (s_withDescendants : Int32) : Option ((Nat → Int64) × Int32) :=
  (sxw_addObjectsOfClass_L8 kF s_sourceClass 0 ha_parents ha_classes hf_objectCount wa_rows wf_count s_withDescendants).bind fun u8 =>
    some (u8.1, u8.2)
def sxw_hasNumber_L2_B (rec : Int32 → (Nat → Int64) → Int32 → Option (Int32)) (l2 : Int32) (wa_rows : Nat → Int64) (wf_count : Int32) : Option (Int32) :=
  if wf_count ≤ l2 then
    some 0
  else
    if hq_I l2 192 = true then
      if ((sxv_isNumber (wa_rows l2.toNatClampNeg))) = 0 then
        rec (l2 + 1) wa_rows wf_count
      else
        some 1
    else none
def sxw_hasNumber_L2 : Nat → Int32 → (Nat → Int64) → Int32 → Option (Int32)
  | 0 => fun _ _ _ => none
  | n + 1 => sxw_hasNumber_L2_B (sxw_hasNumber_L2 n)
def sxw_hasNumber (l1 : Int32) (wa_rows : Nat → Int64) (wf_count : Int32) : Option (Int32) :=
  sxw_hasNumber_L2 kF l1 wa_rows wf_count
def sxw_turnIntoRetained_L77_B (rec : Int32 → Int32 → Int32 → (Nat → Int64) → Int32 → Option ((Nat → Int64) × Int32)) (l4 : Int32) (l5 : Int32) (hf_objectCount : Int32) (wa_rows : Nat → Int64) (wf_count : Int32) : Option ((Nat → Int64) × Int32) :=
  if (sxh_size hf_objectCount) ≤ l5 then
    some (wa_rows, wf_count)
  else
    if (l4 &&& ((1 : Int32) <<< (l5 &&& 31))) = 0 then
      rec l4 (l5 + 1) hf_objectCount wa_rows wf_count
    else
      (sxw_add (sxv_link l5) wa_rows wf_count).bind fun v102 =>
        rec l4 (l5 + 1) hf_objectCount v102.1 v102.2
def sxw_turnIntoRetained_L77 : Nat → Int32 → Int32 → Int32 → (Nat → Int64) → Int32 → Option ((Nat → Int64) × Int32)
  | 0 => fun _ _ _ _ _ => none
  | n + 1 => sxw_turnIntoRetained_L77_B (sxw_turnIntoRetained_L77 n)
def sxw_turnIntoRetained_L16_B (rec : Int32 → Int32 → Int32 → (Nat → Int64) → Int32 → Option (Int32)) (l2 : Int32) (l3 : Int32) (l4 : Int32) (wa_rows : Nat → Int64) (wf_count : Int32) : Option (Int32) :=
  if wf_count ≤ l4 then
    some l3
  else
    if hq_I l4 192 = true then
      if ((sxv_isLink (wa_rows l4.toNatClampNeg))) = 0 then
        rec l2 l3 (l4 + 1) wa_rows wf_count
      else
        if hq_I l4 192 = true then
          rec l2 (l3 ||| ((1 : Int32) <<< (((sxv_contentOf (wa_rows l4.toNatClampNeg))) &&& 31))) (l4 + 1) wa_rows wf_count
        else none
    else none
def sxw_turnIntoRetained_L16 : Nat → Int32 → Int32 → Int32 → (Nat → Int64) → Int32 → Option (Int32)
  | 0 => fun _ _ _ _ _ => none
  | n + 1 => sxw_turnIntoRetained_L16_B (sxw_turnIntoRetained_L16 n)
def sxw_turnIntoRetained (l2 : Int32) (hf_objectCount : Int32) (sa_linkedFrom : Nat → Int32) (sf_roots : Int32) (sf_reachable : Int32) (wa_rows : Nat → Int64) (wf_count : Int32) : Option (Int32 × (Nat → Int64) × Int32) :=
  (sxw_hasNumber l2 wa_rows wf_count).bind fun v2 =>
    if v2 = 0 then
      (sxw_turnIntoRetained_L16 kF l2 0 l2 wa_rows wf_count).bind fun u16 =>
        (sxs_retainedBy u16 sa_linkedFrom sf_roots sf_reachable).bind fun v64 =>
          (sxw_turnIntoRetained_L77 kF v64 0 hf_objectCount wa_rows l2).bind fun u77 =>
            some (0, u77.1, u77.2)
    else
      some (((-4), wa_rows, wf_count))
def sxw_hasRowSince_L3_B (rec : Int64 → Int32 → (Nat → Int64) → Int32 → Option (Int32)) (l2 : Int64) (l4 : Int32) (wa_rows : Nat → Int64) (wf_count : Int32) : Option (Int32) :=
  if wf_count ≤ l4 then
    some 0
  else
    if hq_I l4 192 = true then
      if (lg_cmp (wa_rows l4.toNatClampNeg) l2) = 0 then
        some 1
      else
        rec l2 (l4 + 1) wa_rows wf_count
    else none
def sxw_hasRowSince_L3 : Nat → Int64 → Int32 → (Nat → Int64) → Int32 → Option (Int32)
  | 0 => fun _ _ _ _ => none
  | n + 1 => sxw_hasRowSince_L3_B (sxw_hasRowSince_L3 n)
def sxw_hasRowSince (l1 : Int32) (l2 : Int64) (wa_rows : Nat → Int64) (wf_count : Int32) : Option (Int32) :=
  sxw_hasRowSince_L3 kF l2 l1 wa_rows wf_count
def sxw_leaveOutRepeated_L12_B (rec : Int32 → Int32 → Int32 → (Nat → Int64) → Int32 → Option ((Nat → Int64) × Int32)) (l1 : Int32) (l2 : Int32) (l3 : Int32) (wa_rows : Nat → Int64) (wf_count : Int32) : Option ((Nat → Int64) × Int32) :=
  if l2 ≤ l3 then
    some (wa_rows, wf_count)
  else
    if hq_I l3 192 = true then
      (sxw_hasRowSince l1 (wa_rows l3.toNatClampNeg) wa_rows wf_count).bind fun v25 =>
        if v25 = 0 then
          if hq_I l3 192 = true then
            (sxw_add (wa_rows l3.toNatClampNeg) wa_rows wf_count).bind fun v38 =>
              rec l1 l2 (l3 + 1) v38.1 v38.2
          else none
        else
          rec l1 l2 (l3 + 1) wa_rows wf_count
    else none
def sxw_leaveOutRepeated_L12 : Nat → Int32 → Int32 → Int32 → (Nat → Int64) → Int32 → Option ((Nat → Int64) × Int32)
  | 0 => fun _ _ _ _ _ => none
  | n + 1 => sxw_leaveOutRepeated_L12_B (sxw_leaveOutRepeated_L12 n)
def sxw_leaveOutRepeated (l1 : Int32) (wa_rows : Nat → Int64) (wf_count : Int32) : Option ((Nat → Int64) × Int32) :=
  (sxw_leaveOutRepeated_L12 kF l1 wf_count l1 wa_rows l1).bind fun u12 =>
    some (u12.1, u12.2)
def sxw_leaveOutEmpty_L12_B (rec : Int32 → Int32 → (Nat → Int64) → Int32 → Option ((Nat → Int64) × Int32)) (l2 : Int32) (l3 : Int32) (wa_rows : Nat → Int64) (wf_count : Int32) : Option ((Nat → Int64) × Int32) :=
  if l2 ≤ l3 then
    some (wa_rows, wf_count)
  else
    if hq_I l3 192 = true then
      if ((sxv_isEmpty (wa_rows l3.toNatClampNeg))) = 0 then
        if hq_I l3 192 = true then
          (sxw_add (wa_rows l3.toNatClampNeg) wa_rows wf_count).bind fun v36 =>
            rec l2 (l3 + 1) v36.1 v36.2
        else none
      else
        rec l2 (l3 + 1) wa_rows wf_count
    else none
def sxw_leaveOutEmpty_L12 : Nat → Int32 → Int32 → (Nat → Int64) → Int32 → Option ((Nat → Int64) × Int32)
  | 0 => fun _ _ _ _ => none
  | n + 1 => sxw_leaveOutEmpty_L12_B (sxw_leaveOutEmpty_L12 n)
def sxw_leaveOutEmpty (l1 : Int32) (wa_rows : Nat → Int64) (wf_count : Int32) : Option ((Nat → Int64) × Int32) :=
  (sxw_leaveOutEmpty_L12 kF wf_count l1 wa_rows l1).bind fun u12 =>
    some (u12.1, u12.2)
