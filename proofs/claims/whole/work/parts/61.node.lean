-- is it a node; has its bus a loop: in both
noncomputable def isN (m : Nat → Nat) (x : Int32) : Bool := bo (∃ v, v < m 2 ∧ x = nI v)
theorem isN_t {m : Nat → Nat} {v : Nat} (h : v < m 2) : isN m (nI v) = true := bo_p ⟨v, h, rfl⟩
theorem x_hasNode {m : Nat → Nat} {k F : Nat} {h : Hp} (x : Int32) (h2 : m 2 ≤ 10) (c : h k 3 = nI (m 2)) : f5_hasNode F k x h = some (if isN m x = true then nI 1 else nI 0, h) := by
  unfold f5_hasNode
  rw [c]
  rcases i32_of x with hx | ⟨a, ha, rfl⟩
  · have : isN m x = false := bo_f (by
      rintro ⟨v, hv, rfl⟩
      rw [ni_lt (by omega) (by omega)] at hx
      omega)
    rw [this, if_pos (show x < 0 from hx)]
    rfl
  · rw [if_neg (show ¬ nI a < 0 by show ¬ nI a < nI 0; rw [ni_lt (by omega) (by omega)]; omega)]
    by_cases z : a < m 2
    · rw [isN_t z, if_neg (by rw [ni_le (by omega) (by omega)]; omega)]
      rfl
    · have : isN m (nI a) = false := bo_f (by
        rintro ⟨v, hv, e⟩
        rw [ni_eq (by omega) (by omega)] at e
        omega)
      rw [this, if_pos (by rw [ni_le (by omega) (by omega)]; omega)]
      rfl
theorem lg_lt {x y : Int64} : (lg_cmp x y < 0) = (x < y) := by
  unfold lg_cmp
  by_cases h1 : x > y
  · rw [if_pos h1]
    apply propext
    constructor
    · intro z; exact absurd z (by decide)
    · intro z
      have a := Int64.lt_iff_toInt_lt.mp h1
      have b := Int64.lt_iff_toInt_lt.mp z
      omega
  · rw [if_neg h1]
    by_cases h2 : x = y
    · rw [if_pos h2]
      apply propext
      constructor
      · intro z; exact absurd z (by decide)
      · intro z
        rw [h2] at z
        have b := Int64.lt_iff_toInt_lt.mp z
        omega
    · rw [if_neg h2]
      apply propext
      refine ⟨fun _ => ?_, fun _ => by decide⟩
      apply Int64.lt_iff_toInt_lt.mpr
      have a : ¬ y.toInt < x.toInt := fun z => h1 (Int64.lt_iff_toInt_lt.mpr z)
      have b : x.toInt ≠ y.toInt := fun z => h2 (Int64.toInt_inj.mp z)
      omega
theorem lg_gt {x y : Int64} : (0 < lg_cmp x y) = (y < x) := by
  unfold lg_cmp
  by_cases h1 : x > y
  · rw [if_pos h1]
    apply propext
    exact ⟨fun _ => h1, fun _ => by decide⟩
  · rw [if_neg h1]
    apply propext
    refine ⟨fun z => ?_, fun z => absurd z h1⟩
    by_cases h2 : x = y
    · rw [if_pos h2] at z; exact absurd z (by decide)
    · rw [if_neg h2] at z; exact absurd z (by decide)
theorem to64 (x : Int32) : (x.toInt64).toInt = x.toInt := Int32.toInt_toInt64 x
/-- in(v, low, high) for ints -/
theorem x_in (F : Nat) (x y z : Int32) (h : Hp) : f12_in F x.toInt64 y.toInt64 z.toInt64 h = some (if y ≤ x ∧ x ≤ z then nI 1 else nI 0, h) := by
  have l1 : (lg_cmp x.toInt64 y.toInt64 < 0) ↔ x.toInt < y.toInt := by rw [lg_lt, Int64.lt_iff_toInt_lt, to64, to64]
  have l2 : (0 < lg_cmp x.toInt64 z.toInt64) ↔ z.toInt < x.toInt := by rw [lg_gt, Int64.lt_iff_toInt_lt, to64, to64]
  have l3 : (y ≤ x ∧ x ≤ z) ↔ (y.toInt ≤ x.toInt ∧ x.toInt ≤ z.toInt) := by rw [Int32.le_iff_toInt_le, Int32.le_iff_toInt_le]
  unfold f12_in
  by_cases a : x.toInt < y.toInt
  · rw [if_pos (l1.mpr a), if_neg (fun q => by have := l3.mp q; omega)]; rfl
  · rw [if_neg (fun q => a (l1.mp q))]
    by_cases b : z.toInt < x.toInt
    · rw [if_pos (l2.mpr b), if_neg (fun q => by have := l3.mp q; omega)]; rfl
    · rw [if_neg (fun q => b (l2.mp q)), if_pos (l3.mpr (by omega))]; rfl
theorem x_isNode {m : Nat → Nat} {F : Nat} {h : Hp} (x : Int32) (h2 : m 2 ≤ 10) (c : MN h m) : f12_isNode F x h = some (if isN m x = true then nI 1 else nI 0, h) := by
  have c2 : h 69 (2 : Int32).toNatClampNeg = nI (m 2) := c 2 (by omega)
  unfold f12_isNode
  rw [c2, show (0 : Int64) = (0 : Int32).toInt64 from rfl, x_in]
  have key : (if (0 : Int32) ≤ x ∧ x ≤ nI (m 2) - 1 then nI 1 else nI 0) = (if isN m x = true then nI 1 else nI 0) := by
    have e : nI (m 2) - 1 = fr (m 2) := fr_sub (m 2)
    rw [e]
    rcases i32_of x with hx | ⟨a, ha, rfl⟩
    · have : isN m x = false := bo_f (by
        rintro ⟨v, hv, rfl⟩
        rw [ni_lt (by omega) (by omega)] at hx
        omega)
      rw [this, if_neg]
      · rfl
      · rintro ⟨z, -⟩
        have z1 := Int32.le_iff_toInt_le.mp z
        have z2 := Int32.lt_iff_toInt_lt.mp hx
        have : (nI 0).toInt = (0 : Int32).toInt := rfl
        omega
    · by_cases z : a < m 2
      · rw [isN_t z, if_pos]
        · rfl
        · refine ⟨by show nI 0 ≤ nI a; rw [ni_le (by omega) (by omega)]; omega, ?_⟩
          rw [fr_p (by omega), ni_le (by omega) (by omega)]
          omega
      · have : isN m (nI a) = false := bo_f (by
          rintro ⟨v, hv, e⟩
          rw [ni_eq (by omega) (by omega)] at e
          omega)
        rw [this, if_neg]
        · rfl
        · rintro ⟨-, y⟩
          by_cases q : m 2 = 0
          · rw [q, fr_0, ni_le_mm (by omega)] at y; exact y
          · rw [fr_p (by omega), ni_le (by omega) (by omega)] at y
            omega
  rw [key]
  show (if (if isN m x = true then nI 1 else nI 0) = 0 ∨ (if isN m x = true then nI 1 else nI 0) = 1 then some _ else none) = _
  cases isN m x
  · rfl
  · rfl
theorem x_leastOf {m : Nat → Nat} {k v F : Nat} {h : Hp} (ok : OkG m) (c : CS h k m) (hv : v < m 2) : f2_leastOf F (nI v) h = some (nI (lst (og m) v), h) := by
  have h2 := ok.2.1
  have e1 : h 45 v = nI (lst (og m) v) := by rw [c.2.2.2.2.2.1 v (by omega), if_pos (bo_p hv)]
  have l1 := (lst_cn (o := og m) (v := v) (by omega)).2
  unfold f2_leastOf
  simp (disch := omega) only [up_s, up_k, up_j, mm_neg, mm_def, ni_lt, ni_le, ni_eq, ni_mm, mm_ni, ni_lt_mm, ni_le_mm, mm_lt_ni, mm_le_ni, mm_lt_mm, mm_le_mm, ni_cl, ni_in, nI_add, ni_mul, ni_div, ni_rem, ni_rem2, fr_sub, fr_mm, fr_ge0, fr_lt0, fr_inj, l32_0, l32_1, l32_2, l32_3, l32_4, l32_5, l32_6, l32_7, l32_8, l32_9, l32_10, l32_11, l32_12, l32_13, l32_14, l32_15, l32_16, l32_20, l32_24, l32_25, l32_26, l32_31, l32_32, l32_34, l32_35, l32_39, l32_40, l32_44, l32_45, l32_46, l32_47, l32_48, l32_49, l32_57, l32_58, l32_59, l32_63, l32_64, l32_85, l32_90, l32_97, l32_99, l32_100, l32_110, l32_112, l32_122, l32_124, l32_125, l32_255, l32_680, l32_699, l32_700, l32_999, l32_2500, l32_99999, l32_100000, l32_1000000, if_true, if_false, ite_true, ite_false, ce_nm, Option.bind, if_pos, if_neg, e1]
theorem x_nodesIn {m : Nat → Nat} {k v F : Nat} {h : Hp} (ok : OkG m) (c : CS h k m) (hv : v < m 2) : f2_nodesIn F (nI v) h = some (nI (sz (og m) v), h) := by
  have h2 := ok.2.1
  have l1 := (lst_cn (o := og m) (v := v) (by omega))
  have l2 := cn_lt ok l1.1 hv
  have e1 : h 46 (lst (og m) v) = nI (sz (og m) v) := by
    have e0 := (c.2.2.2.2.2.2 _ l2 (lst_lst ok.2.2.2.1 (by omega))).1
    rw [e0, sz_eq ok.2.2.2.1 l1.1]
  have e2 := x_leastOf (F := F) ok c hv
  generalize lst (og m) v = L at l1 l2 e1 e2
  generalize sz (og m) v = S at e1
  unfold f2_nodesIn
  rw [e2]
  show (if ce_in (nI L) 10 = true then some (h 46 (nI L).toNatClampNeg, h) else none) = some (nI S, h)
  rw [if_pos (ni_in (by omega) l1.2), ni_cl (by omega), e1]
theorem x_cablesIn {m : Nat → Nat} {k v F : Nat} {h : Hp} (ok : OkG m) (c : CS h k m) (hv : v < m 2) : f2_cablesIn F (nI v) h = some (nI (cb (og m) v), h) := by
  have h2 := ok.2.1
  have l1 := (lst_cn (o := og m) (v := v) (by omega))
  have l2 := cn_lt ok l1.1 hv
  have e1 : h 47 (lst (og m) v) = nI (cb (og m) v) := by
    have e0 := (c.2.2.2.2.2.2 _ l2 (lst_lst ok.2.2.2.1 (by omega))).2
    rw [e0, cb_eq ok.2.2.2.1 l1.1]
  have e2 := x_leastOf (F := F) ok c hv
  generalize lst (og m) v = L at l1 l2 e1 e2
  generalize cb (og m) v = S at e1
  unfold f2_cablesIn
  rw [e2]
  show (if ce_in (nI L) 10 = true then some (h 47 (nI L).toNatClampNeg, h) else none) = some (nI S, h)
  rw [if_pos (ni_in (by omega) l1.2), ni_cl (by omega), e1]
theorem x_hasLoop {m : Nat → Nat} {k v F : Nat} {h : Hp} (ok : OkG m) (c : CS h k m) (hv : v < m 2) : f2_hasLoop F (nI v) h = some (if sz (og m) v ≤ cb (og m) v then nI 1 else nI 0, h) := by
  have hs : sz (og m) v ≤ 10 := ct_le _ _
  have hc : cb (og m) v ≤ 20 := by have := ct_le (eb (og m) v) 40; unfold cb; omega
  have e1 := x_cablesIn (F := F) ok c hv
  have e2 := x_nodesIn (F := F) ok c hv
  generalize sz (og m) v = S at hs e2
  generalize cb (og m) v = T at hc e1
  unfold f2_hasLoop
  rw [e1]
  show Option.bind (f2_nodesIn F (nI v) h) (fun o7 => if nI T < o7.1 then some ((0 : Int32), o7.2) else some ((1 : Int32), o7.2)) = some (if S ≤ T then nI 1 else nI 0, h)
  rw [e2]
  show (if nI T < nI S then some ((0 : Int32), h) else some ((1 : Int32), h)) = some (if S ≤ T then nI 1 else nI 0, h)
  by_cases z : S ≤ T
  · rw [if_pos z, if_neg (by rw [ni_lt (by omega) (by omega)]; omega)]; rfl
  · rw [if_neg z, if_pos (by rw [ni_lt (by omega) (by omega)]; omega)]; rfl
theorem x_refusalOf {m : Nat → Nat} {k F : Nat} {h : Hp} (x : Int32) (ok : OkG m) (c : CS h k m) : f11_refusalOf F x h = some (if isN m x = true then (if bo (∃ v, v < m 2 ∧ x = nI v ∧ sz (og m) v ≤ cb (og m) v) = true then mm else nI 0) else -2, h) := by
  unfold f11_refusalOf
  show (if ce_isNet (h 0 2).toNatClampNeg then _ else none) = _
  rw [c.1, isNet_nI c.2.1, if_pos c.2.1, x_hasNode x ok.2.1 c.2.2.1.2.1]
  cases hN : isN m x
  · rfl
  · obtain ⟨v, hv, rfl⟩ := bo_t.mp hN
    show Option.bind (f2_hasLoop F (nI v) h) _ = _
    rw [x_hasLoop ok c hv]
    have h2 := ok.2.1
    by_cases z : sz (og m) v ≤ cb (og m) v
    · rw [if_pos z, bo_p ⟨v, hv, rfl, z⟩]; rfl
    · rw [if_neg z, bo_f]
      · rfl
      · rintro ⟨u, hu, e, y⟩
        rw [ni_eq (by omega) (by omega)] at e
        rw [← e] at y
        exact z y
