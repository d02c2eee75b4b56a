-- wins, grant, turn, fair
theorem ushr_k : ∀ n : Fin 11, (nI n.val).toUInt32 &&& Int32.toUInt32 31 = UInt32.ofNat n.val := by decide +kernel
theorem ushr_k2 : ∀ n : Fin 11, (UInt32.ofNat n.val).toNat % 32 = n.val := by decide +kernel
theorem ushr_nat (x : Int32) {n : Nat} (hn : n ≤ 10) : (ce_ushr x (nI n)).toUInt32.toNat = x.toUInt32.toNat / 2 ^ n := by
  have e := ushr_k ⟨n, by omega⟩
  have e2 := ushr_k2 ⟨n, by omega⟩
  dsimp only at e e2
  unfold ce_ushr
  rw [e, UInt32.toUInt32_toInt32, UInt32.toNat_shiftRight, Nat.shiftRight_eq_div_pow, e2]
theorem un_neg {x : Int32} (h : x < nI 0) : 2147483648 ≤ x.toUInt32.toNat := by
  have a := Int32.lt_iff_toInt_lt.mp h
  have b : (nI 0).toInt = 0 := rfl
  rw [b] at a
  have c : x.toBitVec.toInt < 0 := a
  rw [BitVec.toInt_neg_iff] at c
  have d : x.toBitVec.toNat = x.toUInt32.toNat := rfl
  omega
theorem un_pos {a : Nat} (h : a < 2147483648) : (nI a).toUInt32.toNat = a := by
  have p : (0 : Int32) ≤ nI a := by
    have : nI 0 ≤ nI a := by rw [ni_le (by omega) h]; omega
    exact this
  rw [Int32.toNat_toUInt32_of_le p, ni_cl h]
theorem ushr_0 (x : Int32) {n : Nat} (hn : n ≤ 10) : (ce_ushr x (nI n) = 0) ↔ ∃ c, c < 2 ^ n ∧ x = nI c := by
  have hb : 2 ^ n ≤ 2 ^ 10 := Nat.pow_le_pow_right (by omega) hn
  have e := ushr_nat x hn
  constructor
  · intro h
    rw [h] at e
    have z : (0 : Int32).toUInt32.toNat = 0 := rfl
    rw [z] at e
    have lt : x.toUInt32.toNat < 2 ^ n := Classical.byContradiction (fun q => by
      have := Nat.div_pos (by omega : 2 ^ n ≤ x.toUInt32.toNat) (Nat.two_pow_pos n)
      omega)
    rcases i32_of x with hx | ⟨a, ha, rfl⟩
    · have := un_neg hx
      omega
    · rw [un_pos ha] at lt
      exact ⟨a, lt, rfl⟩
  · rintro ⟨c, hc, rfl⟩
    rw [un_pos (by omega), Nat.div_eq_of_lt hc] at e
    rcases i32_of (ce_ushr (nI c) (nI n)) with hx | ⟨a, ha, hy⟩
    · have := un_neg hx
      omega
    · rw [hy, un_pos ha] at e
      rw [hy, e]
      rfl
/-- a set that may ask: its least node, all of one bus -/
def okS (m : Nat → Nat) (c : Nat) : Prop := ∀ v, v < m 2 → inS c v = true → Cn (og m) (fi (inS c) 10 - 1) v
theorem fi_inS {n c : Nat} (hn : n ≤ 10) (hc : c < 2 ^ n) (h0 : c ≠ 0) : fi (inS c) 10 ≠ 0 ∧ fi (inS c) 10 - 1 < n ∧ inS c (fi (inS c) 10 - 1) = true := by
  have hb : 2 ^ n ≤ 2 ^ 10 := Nat.pow_le_pow_right (by omega) hn
  rcases fi_spec (inS c) 10 with ⟨a, b⟩ | ⟨a, b, d, e⟩
  · exfalso
    refine h0 (pc_z (by omega) ?_)
    rw [ct_congr (p := inS c) (q := fun _ => false) (fun i hi => b i hi)]
    rfl
  · exact ⟨a, inS_hi hn hc (by omega) d, d⟩
noncomputable def sV (m : Nat → Nat) (c : Nat) : Int32 := if fi (fun v => inS c v && !(bo (Cn (og m) (fi (inS c) 10 - 1) v))) (m 2) ≠ 0 then -2 else if sz (og m) (fi (inS c) 10 - 1) ≤ cb (og m) (fi (inS c) 10 - 1) then -3 else 0
theorem sV_ok {m : Nat → Nat} {c : Nat} (h : sV m c = 0) : okS m c ∧ ¬ sz (og m) (fi (inS c) 10 - 1) ≤ cb (og m) (fi (inS c) 10 - 1) := by
  unfold sV at h
  by_cases z : fi (fun v => inS c v && !(bo (Cn (og m) (fi (inS c) 10 - 1) v))) (m 2) ≠ 0
  · rw [if_pos z] at h; exact absurd h (by decide)
  · rw [if_neg z] at h
    by_cases y : sz (og m) (fi (inS c) 10 - 1) ≤ cb (og m) (fi (inS c) 10 - 1)
    · rw [if_pos y] at h; exact absurd h (by decide)
    · refine ⟨fun v hv hs => ?_, y⟩
      rcases fi_spec (fun v => inS c v && !(bo (Cn (og m) (fi (inS c) 10 - 1) v))) (m 2) with ⟨a, b⟩ | ⟨a, b, d, e⟩
      · have := b v hv
        rw [hs] at this
        apply Classical.byContradiction
        intro q
        rw [bo_f q] at this
        exact absurd this (by simp)
      · exact absurd a z
theorem x_setRefusal {m : Nat → Nat} {kn c F : Nat} {h : Hp} (co : Co h m kn) (hc : c < 2 ^ m 2) (h0 : c ≠ 0) (hF : 1000 ≤ F) : f11_setRefusal F (nI c) h = some (sV m c, h) := by
  have on := co.2.2.1
  have h2 := on.1.2.1
  have b := net_le co.2.1
  have hb : 2 ^ m 2 ≤ 2 ^ 10 := Nat.pow_le_pow_right (by omega) h2
  obtain ⟨f1, f2, f3⟩ := fi_inS h2 hc h0
  have l := co.liv f2
  have cs := co.cs l
  refine Ev.eq ?_
  unfold f11_setRefusal
  refine Ev.neg (by simp (disch := omega) only [up_s, up_k, up_j, mm_neg, mm_def, ni_lt, ni_le, ni_eq, ni_mm, mm_ni, ni_lt_mm, ni_le_mm, mm_lt_ni, mm_le_ni, mm_lt_mm, mm_le_mm, ni_cl, ni_in, nI_add, ni_mul, ni_div, ni_rem, ni_rem2, fr_sub, fr_mm, fr_ge0, fr_lt0, fr_inj, l32_0, l32_1, l32_2, l32_3, l32_4, l32_5, l32_6, l32_7, l32_8, l32_9, l32_10, l32_11, l32_12, l32_13, l32_14, l32_15, l32_16, l32_20, l32_24, l32_25, l32_26, l32_31, l32_32, l32_34, l32_35, l32_39, l32_40, l32_44, l32_45, l32_46, l32_47, l32_48, l32_49, l32_57, l32_58, l32_59, l32_63, l32_64, l32_85, l32_90, l32_97, l32_99, l32_100, l32_110, l32_112, l32_122, l32_124, l32_125, l32_255, l32_680, l32_699, l32_700, l32_999, l32_2500, l32_99999, l32_100000, l32_1000000, if_true, if_false, ite_true, ite_false, ce_nm, Option.bind, if_pos, if_neg]; exact h0) (Ev.nm ?_)
  rw [co.1, ni_cl (by omega)]
  refine Ev.grd co.2.1 ?_
  have n3 : h kn 3 = nI (m 2) := co.2.2.2.2.1.1.2.1
  refine Ev.pos (by rw [n3, ushr_0 _ h2]; exact ⟨c, hc, rfl⟩) ?_
  rw [x_leastIn (by omega) hF]
  refine ev_bs ?_
  dsimp only
  obtain ⟨a, ha⟩ : ∃ a, a = fi (inS c) 10 - 1 := ⟨_, rfl⟩
  unfold sV
  rw [← ha] at f2 f3 ⊢
  have L := find_it (B := fun st => f11_setRefusal_b28 F (nI c) (nI a) st.1 st.2) (fun v => inS c v && !(bo (Cn (og m) a v))) (fun _ => ((-2 : Int32), h)) (m 2) h (F := F) (by omega) (fun i hi hb' => by
    show f11_setRefusal_b28 F (nI c) (nI a) (nI i) h = _
    have nxt : nI i + 1 = nI (i + 1) := nI_1 _
    refine Ev.eq' ?_
    unfold f11_setRefusal_b28
    refine Ev.nm ?_
    rw [co.1, ni_cl (by omega)]
    refine Ev.grd co.2.1 ?_
    by_cases z : i = m 2
    · refine Ev.pos (by rw [n3, z]; simp (disch := omega) only [up_s, up_k, up_j, mm_neg, mm_def, ni_lt, ni_le, ni_eq, ni_mm, mm_ni, ni_lt_mm, ni_le_mm, mm_lt_ni, mm_le_ni, mm_lt_mm, mm_le_mm, ni_cl, ni_in, nI_add, ni_mul, ni_div, ni_rem, ni_rem2, fr_sub, fr_mm, fr_ge0, fr_lt0, fr_inj, l32_0, l32_1, l32_2, l32_3, l32_4, l32_5, l32_6, l32_7, l32_8, l32_9, l32_10, l32_11, l32_12, l32_13, l32_14, l32_15, l32_16, l32_20, l32_24, l32_25, l32_26, l32_31, l32_32, l32_34, l32_35, l32_39, l32_40, l32_44, l32_45, l32_46, l32_47, l32_48, l32_49, l32_57, l32_58, l32_59, l32_63, l32_64, l32_85, l32_90, l32_97, l32_99, l32_100, l32_110, l32_112, l32_122, l32_124, l32_125, l32_255, l32_680, l32_699, l32_700, l32_999, l32_2500, l32_99999, l32_100000, l32_1000000, if_true, if_false, ite_true, ite_false, ce_nm, Option.bind, if_pos, if_neg]; exact Nat.le_refl _) (Ev.some ?_)
      rw [if_pos z]
    · refine Ev.neg (by rw [n3]; simp (disch := omega) only [up_s, up_k, up_j, mm_neg, mm_def, ni_lt, ni_le, ni_eq, ni_mm, mm_ni, ni_lt_mm, ni_le_mm, mm_lt_ni, mm_le_ni, mm_lt_mm, mm_le_mm, ni_cl, ni_in, nI_add, ni_mul, ni_div, ni_rem, ni_rem2, fr_sub, fr_mm, fr_ge0, fr_lt0, fr_inj, l32_0, l32_1, l32_2, l32_3, l32_4, l32_5, l32_6, l32_7, l32_8, l32_9, l32_10, l32_11, l32_12, l32_13, l32_14, l32_15, l32_16, l32_20, l32_24, l32_25, l32_26, l32_31, l32_32, l32_34, l32_35, l32_39, l32_40, l32_44, l32_45, l32_46, l32_47, l32_48, l32_49, l32_57, l32_58, l32_59, l32_63, l32_64, l32_85, l32_90, l32_97, l32_99, l32_100, l32_110, l32_112, l32_122, l32_124, l32_125, l32_255, l32_680, l32_699, l32_700, l32_999, l32_2500, l32_99999, l32_100000, l32_1000000, if_true, if_false, ite_true, ite_false, ce_nm, Option.bind, if_pos, if_neg]; omega) ?_
      rw [x_holds (by omega) (by omega), if_neg z]
      refine ev_bs ?_
      dsimp only
      by_cases y : inS c i = true
      · refine Ev.neg (by rw [if_pos y]; decide) ?_
        rw [x_areOne on.1 cs f2 (by omega)]
        refine ev_bs ?_
        dsimp only
        by_cases x : Cn (og m) a i
        · refine Ev.neg (by rw [bo_p x]; decide) (Ev.some ?_)
          rw [if_neg (by simp [bo_p x]), nxt]
        · refine Ev.pos (by rw [bo_f x]; rfl) (Ev.some ?_)
          rw [if_pos (by simp [bo_f x, y])]
      · refine Ev.pos (by rw [if_neg y]; rfl) (Ev.some ?_)
        rw [if_neg (by simp [y]), nxt])
  rw [show ((0 : Int32), h) = (nI 0, h) from rfl, L]
  generalize fi (fun v => inS c v && !(bo (Cn (og m) a v))) (m 2) = q
  by_cases z : q = 0
  · rw [if_pos z, if_neg (by omega)]
    show Ev (Option.bind (f2_hasLoop F (nI a) h) _) _
    rw [x_hasLoop on.1 cs f2]
    refine ev_bs ?_
    dsimp only
    by_cases y : sz (og m) a ≤ cb (og m) a
    · refine Ev.neg (by rw [if_pos y]; decide) (Ev.some ?_)
      rw [if_pos y]
    · refine Ev.pos (by rw [if_neg y]; rfl) (Ev.some ?_)
      rw [if_neg y]
  · rw [if_neg z, if_pos z]
    exact Ev.some rfl
theorem x_setRefusal0 {m : Nat → Nat} {kn F : Nat} {h : Hp} {x : Int32} (co : Co h m kn) (hx : ∀ c, c < 2 ^ m 2 → x ≠ nI c) : f11_setRefusal F x h = some (-2, h) := by
  have b := net_le co.2.1
  have n3 : h kn 3 = nI (m 2) := co.2.2.2.2.1.1.2.1
  refine Ev.eq ?_
  unfold f11_setRefusal
  refine Ev.neg (fun q => hx 0 (Nat.two_pow_pos _) (by rw [q]; rfl)) (Ev.nm ?_)
  rw [co.1, ni_cl (by omega)]
  refine Ev.grd co.2.1 (Ev.neg ?_ (Ev.some rfl))
  rw [n3, ushr_0 _ co.2.2.1.1.2.1]
  rintro ⟨c, h1, h2⟩
  exact hx c h1 h2
theorem x_is {m : Nat → Nat} {F : Nat} {h : Hp} (c : MN h m) (h3 : m 3 ≤ 700) : f12_is F h = some (if m 3 = 0 then nI 0 else nI 1, h) := by
  have c3 : h 69 ((3 : Int32)).toNatClampNeg = nI (m 3) := c 3 (by omega)
  refine Ev.eq ?_
  unfold f12_is
  by_cases z : m 3 = 0
  · refine Ev.pos (by rw [c3, z]; decide) (Ev.some ?_)
    rw [if_pos z]
    rfl
  · refine Ev.neg (by rw [c3]; simp (disch := omega) only [up_s, up_k, up_j, mm_neg, mm_def, ni_lt, ni_le, ni_eq, ni_mm, mm_ni, ni_lt_mm, ni_le_mm, mm_lt_ni, mm_le_ni, mm_lt_mm, mm_le_mm, ni_cl, ni_in, nI_add, ni_mul, ni_div, ni_rem, ni_rem2, fr_sub, fr_mm, fr_ge0, fr_lt0, fr_inj, l32_0, l32_1, l32_2, l32_3, l32_4, l32_5, l32_6, l32_7, l32_8, l32_9, l32_10, l32_11, l32_12, l32_13, l32_14, l32_15, l32_16, l32_20, l32_24, l32_25, l32_26, l32_31, l32_32, l32_34, l32_35, l32_39, l32_40, l32_44, l32_45, l32_46, l32_47, l32_48, l32_49, l32_57, l32_58, l32_59, l32_63, l32_64, l32_85, l32_90, l32_97, l32_99, l32_100, l32_110, l32_112, l32_122, l32_124, l32_125, l32_255, l32_680, l32_699, l32_700, l32_999, l32_2500, l32_99999, l32_100000, l32_1000000, if_true, if_false, ite_true, ite_false, ce_nm, Option.bind, if_pos, if_neg]; omega) (Ev.some ?_)
    rw [if_neg z]
    rfl
theorem x_whyNotSet0 {m : Nat → Nat} {kn F : Nat} {h : Hp} {x : Int32} (co : Co h m kn) (hx : ∀ c, c < 2 ^ m 2 → x ≠ nI c) : f12_whyNotSet F x h = some (-2, h) := by
  have on := co.2.2.1
  have h2 := on.1.2.1
  have cm := co.2.2.2.1
  have hb : 2 ^ m 2 ≤ 2 ^ 10 := Nat.pow_le_pow_right (by omega) h2
  have e2 : h 69 ((2 : Int32)).toNatClampNeg = nI (m 2) := cm 2 (by omega)
  have x0 : ¬ x = 0 := fun q => hx 0 (Nat.two_pow_pos _) (by rw [q]; rfl)
  refine Ev.eq ?_
  unfold f12_whyNotSet
  refine Ev.neg x0 ?_
  rw [x_is cm on.2.2.2.2.1]
  refine ev_bs ?_
  dsimp only
  by_cases z : m 3 = 0
  · exact Ev.pos (by rw [if_pos z]; rfl) (Ev.some rfl)
  · refine Ev.neg (by rw [if_neg z]; decide) ?_
    have os := one_sh' ⟨m 2, by omega⟩
    dsimp only at os
    rw [e2, os, show (1 : Int64) = (nI 1).toInt64 from rfl, x_in]
    refine ev_bs ?_
    dsimp only
    refine Ev.pos ?_ (Ev.some rfl)
    rw [if_neg]
    · rfl
    · rintro ⟨q1, q2⟩
      rcases i32_of x with hx' | ⟨a, ha, rfl⟩
      · have a1 := Int32.le_iff_toInt_le.mp q1
        have a2 := Int32.lt_iff_toInt_lt.mp hx'
        have a3 : (nI 0).toInt = 0 := rfl
        have a4 : (nI 1).toInt = 1 := rfl
        omega
      · rw [ni_le (by omega) (by omega)] at q1 q2
        exact hx a (by have := Nat.two_pow_pos (m 2); omega) rfl
theorem x_whyNotSet {m : Nat → Nat} {kn c F : Nat} {h : Hp} (co : Co h m kn) (hc : c < 2 ^ m 2) (h0 : c ≠ 0) (hF : 1000 ≤ F) : Ev (f12_whyNotSet F (nI c) h) (fun o => o.1 = sV m c ∧ Sc h o.2 ∧ (sV m c = 0 → MF o.2 m (sM m) ∧ ∃ r hp, Tf m (fi (inS c) 10 - 1) r hp ∧ o.2 68 41 = fr (aw m (Pf m (sM m)) c 12 r).1 ∧ o.2 68 42 = nI (2 * (aw m (Pf m (sM m)) c 12 r).2))) := by
  have on := co.2.2.1
  have h2 := on.1.2.1
  have g := on.1.2.2.2.1
  have cm := co.2.2.2.1
  have hb : 2 ^ m 2 ≤ 2 ^ 10 := Nat.pow_le_pow_right (by omega) h2
  obtain ⟨f1, f2, f3⟩ := fi_inS h2 hc h0
  have e2 : h 69 ((2 : Int32)).toNatClampNeg = nI (m 2) := cm 2 (by omega)
  have n3 : m 3 ≠ 0 := fun q => by have := (on.2.2.2.2.2.2 q).1; omega
  unfold f12_whyNotSet
  refine Ev.neg (by simp (disch := omega) only [up_s, up_k, up_j, mm_neg, mm_def, ni_lt, ni_le, ni_eq, ni_mm, mm_ni, ni_lt_mm, ni_le_mm, mm_lt_ni, mm_le_ni, mm_lt_mm, mm_le_mm, ni_cl, ni_in, nI_add, ni_mul, ni_div, ni_rem, ni_rem2, fr_sub, fr_mm, fr_ge0, fr_lt0, fr_inj, l32_0, l32_1, l32_2, l32_3, l32_4, l32_5, l32_6, l32_7, l32_8, l32_9, l32_10, l32_11, l32_12, l32_13, l32_14, l32_15, l32_16, l32_20, l32_24, l32_25, l32_26, l32_31, l32_32, l32_34, l32_35, l32_39, l32_40, l32_44, l32_45, l32_46, l32_47, l32_48, l32_49, l32_57, l32_58, l32_59, l32_63, l32_64, l32_85, l32_90, l32_97, l32_99, l32_100, l32_110, l32_112, l32_122, l32_124, l32_125, l32_255, l32_680, l32_699, l32_700, l32_999, l32_2500, l32_99999, l32_100000, l32_1000000, if_true, if_false, ite_true, ite_false, ce_nm, Option.bind, if_pos, if_neg]; exact h0) ?_
  rw [x_is cm on.2.2.2.2.1]
  refine ev_bs ?_
  dsimp only
  refine Ev.neg (by rw [if_neg n3]; decide) ?_
  have os := one_sh' ⟨m 2, by omega⟩
  dsimp only at os
  rw [e2, os, show (1 : Int64) = (nI 1).toInt64 from rfl, x_in]
  refine ev_bs ?_
  dsimp only
  refine Ev.neg ?_ ?_
  · rw [if_pos]
    · decide
    · rw [ni_le (by omega) (by omega), ni_le (by omega) (by omega)]
      omega
  refine Ev.bind (x_laysBuses g cm hF) (fun h1 hh => ?_)
  obtain ⟨fr1, lb⟩ := hh
  have s1 := fr1.sc (by omega)
  have co1 := co.sc s1
  obtain ⟨a, ha⟩ : ∃ a, a = fi (inS c) 10 - 1 := ⟨_, rfl⟩
  have fs := fi_spec (inS c) 10
  refine Ev.bind (P := fun o => o = (nI a, h1)) ?_ (fun o ho => ?_)
  · refine Ev.it (I := fun i st => st = (nI i, h1) ∧ i ≤ a) _ a ?_ F 0 _ (by omega) (by omega) ⟨rfl, by omega⟩
    rintro i st hi ⟨rfl, hia⟩
    show Ev (f12_whyNotSet_b42 F (nI c) (nI i) h1) _
    unfold f12_whyNotSet_b42
    rw [x_has (by omega) (by omega)]
    refine ev_bs ?_
    dsimp only
    rcases fs with ⟨q1, q2⟩ | ⟨q1, q2, q3, q4⟩
    · exact absurd q1 f1
    · rw [← ha] at q3 q4
      by_cases z : i = a
      · refine Ev.neg (by rw [z, if_pos q3]; decide) (Ev.some ?_)
        rw [z]
      · have := q4 i (by omega)
        refine Ev.pos (by rw [this]; rfl) (Ev.some ⟨by omega, ?_, by omega⟩)
        rw [show nI i + 1 = nI (i + 1) from nI_1 _]
  · subst ho
    dsimp only
    have hsv : sV m c = if fi (fun v => inS c v && !(bo (Cn (og m) a v))) (m 2) ≠ 0 then -2 else if sz (og m) a ≤ cb (og m) a then -3 else 0 := by unfold sV; rw [ha]
    have svo := fun q : sV m c = 0 => sV_ok q
    rw [← ha] at f2 f3 svo
    have L := find_it (B := fun st => f12_whyNotSet_b58 F (nI c) (nI a) st.1 st.2) (fun v => inS c v && !(bo (Cn (og m) a v))) (fun _ => ((-2 : Int32), h1)) (m 2) h1 (F := F) (by omega) (fun i hi hb' => by
      show f12_whyNotSet_b58 F (nI c) (nI a) (nI i) h1 = _
      have nxt : nI i + 1 = nI (i + 1) := nI_1 _
      have c2 : h1 69 ((2 : Int32)).toNatClampNeg = nI (m 2) := co1.2.2.2.1 2 (by omega)
      refine Ev.eq' ?_
      unfold f12_whyNotSet_b58
      by_cases z : i = m 2
      · refine Ev.pos (by rw [c2, z]; simp (disch := omega) only [up_s, up_k, up_j, mm_neg, mm_def, ni_lt, ni_le, ni_eq, ni_mm, mm_ni, ni_lt_mm, ni_le_mm, mm_lt_ni, mm_le_ni, mm_lt_mm, mm_le_mm, ni_cl, ni_in, nI_add, ni_mul, ni_div, ni_rem, ni_rem2, fr_sub, fr_mm, fr_ge0, fr_lt0, fr_inj, l32_0, l32_1, l32_2, l32_3, l32_4, l32_5, l32_6, l32_7, l32_8, l32_9, l32_10, l32_11, l32_12, l32_13, l32_14, l32_15, l32_16, l32_20, l32_24, l32_25, l32_26, l32_31, l32_32, l32_34, l32_35, l32_39, l32_40, l32_44, l32_45, l32_46, l32_47, l32_48, l32_49, l32_57, l32_58, l32_59, l32_63, l32_64, l32_85, l32_90, l32_97, l32_99, l32_100, l32_110, l32_112, l32_122, l32_124, l32_125, l32_255, l32_680, l32_699, l32_700, l32_999, l32_2500, l32_99999, l32_100000, l32_1000000, if_true, if_false, ite_true, ite_false, ce_nm, Option.bind, if_pos, if_neg]; exact Nat.le_refl _) (Ev.some ?_)
        rw [if_pos z]
      · refine Ev.neg (by rw [c2]; simp (disch := omega) only [up_s, up_k, up_j, mm_neg, mm_def, ni_lt, ni_le, ni_eq, ni_mm, mm_ni, ni_lt_mm, ni_le_mm, mm_lt_ni, mm_le_ni, mm_lt_mm, mm_le_mm, ni_cl, ni_in, nI_add, ni_mul, ni_div, ni_rem, ni_rem2, fr_sub, fr_mm, fr_ge0, fr_lt0, fr_inj, l32_0, l32_1, l32_2, l32_3, l32_4, l32_5, l32_6, l32_7, l32_8, l32_9, l32_10, l32_11, l32_12, l32_13, l32_14, l32_15, l32_16, l32_20, l32_24, l32_25, l32_26, l32_31, l32_32, l32_34, l32_35, l32_39, l32_40, l32_44, l32_45, l32_46, l32_47, l32_48, l32_49, l32_57, l32_58, l32_59, l32_63, l32_64, l32_85, l32_90, l32_97, l32_99, l32_100, l32_110, l32_112, l32_122, l32_124, l32_125, l32_255, l32_680, l32_699, l32_700, l32_999, l32_2500, l32_99999, l32_100000, l32_1000000, if_true, if_false, ite_true, ite_false, ce_nm, Option.bind, if_pos, if_neg]; omega) ?_
        rw [x_has (by omega) (by omega), if_neg z]
        refine ev_bs ?_
        dsimp only
        have l1 := (lst_cn (o := og m) (v := i) (by omega)).2
        have l2 := (lst_cn (o := og m) (v := a) (by omega)).2
        by_cases y : inS c i = true
        · refine Ev.neg (by rw [if_pos y]; decide) (Ev.grd (ni_in (by omega) (by omega)) (Ev.grd (ni_in (by omega) (by omega)) ?_))
          rw [ni_cl (by omega : i < 2147483648), ni_cl (by omega : a < 2147483648)]
          by_cases x : Cn (og m) a i
          · have e : lst (og m) a = lst (og m) i := (lst_iff g (by omega) (by omega)).mpr x
            refine Ev.pos (by rw [lb i (by omega), lb a (by omega), e]) (Ev.some ?_)
            rw [if_neg (by simp [bo_p x]), nxt]
          · refine Ev.neg (by rw [lb i (by omega), lb a (by omega), ni_eq (by omega) (by omega)]; exact fun q => x ((lst_iff g (by omega) (by omega)).mp q.symm)) (Ev.some ?_)
            rw [if_pos (by simp [bo_f x, y])]
        · refine Ev.pos (by rw [if_neg y]; rfl) (Ev.some ?_)
          rw [if_neg (by simp [y]), nxt])
    rw [show ((0 : Int32), h1) = (nI 0, h1) from rfl, L]
    generalize fi (fun v => inS c v && !(bo (Cn (og m) a v))) (m 2) = q at hsv
    by_cases z : q = 0
    · rw [if_pos z]
      rw [if_neg (by omega)] at hsv
      show Ev (Option.bind (f12_isLoop F (nI a) h1) _) _
      refine Ev.bind (x_isLoop on.1 co1.2.2.2.1 f2 hF) (fun o ho => ?_)
      obtain ⟨o1, fr2, lb2⟩ := ho
      have s2 := s1.trans (fr2.sc (by omega))
      have co2 := co.sc s2
      by_cases y : sz (og m) a ≤ cb (og m) a
      · rw [if_pos y] at hsv
        refine Ev.neg (by rw [o1, if_pos y]; decide) (Ev.some ⟨by rw [hsv], s2, fun q => ?_⟩)
        rw [hsv] at q
        exact absurd q (by decide)
      · rw [if_neg y] at hsv
        obtain ⟨r, hp, tf⟩ := Tf_of on f2 y
        refine Ev.pos (by rw [o1, if_neg y]; rfl) (Ev.bind (x_runs on.1 on.2.1 on.2.2.1 on.2.2.2.1 co2.2.2.2.1 hF) (fun h5 hh5 => ?_))
        obtain ⟨fr5, mf⟩ := hh5
        have s5 := s2.trans (fr5.sc (by omega))
        have co5 := co.sc s5
        have tf' := tf
        obtain ⟨t1, t2, t3, t4, t5, t6, t7⟩ := tf
        rw [ha] at t3 t6
        refine Ev.bind (x_winsOf on.1 co5.2.2.2.1 t5 t2 (fun v hv => (mf v hv).2.1) on.rb (fun v hv => (mf v hv).2.2.2) (by omega) f1 t3 t6 hF) (fun h6 hh6 => Ev.some ⟨by rw [hsv], ?_, fun _ => ⟨?_, r, hp, ?_, hh6.2.2.2.1, hh6.2.2.2.2⟩⟩)
        · exact s5.trans ⟨fun k hk => hh6.1 k (by omega) (by omega) (by omega) (by omega), fun j hj => hh6.2.1 j (by omega) (by omega)⟩
        · exact MF.eqv mf (fun k k1 k2 => hh6.1 k (by omega) (by omega) (by omega) (by omega))
        · rw [← ha]; exact tf'
    · rw [if_neg z]
      rw [if_pos z] at hsv
      refine Ev.some ⟨by rw [hsv], s1, fun q => ?_⟩
      rw [hsv] at q
      exact absurd q (by decide)
