-- roots in both; the class's ask, the reference's winsOf
noncomputable def rq (m R : Nat → Nat) (a : Nat) : Nat → Bool := fun w => bo (R w ≠ 0 ∧ Cn (og m) a w)
theorem x_rootIn {m R : Nat → Nat} {k kn a F : Nat} {h : Hp} (ok : OkG m) (c : CS h kn m) (cR : ∀ v, v < 10 → h (k + 2) v = fr (R v)) (hR : ∀ v, v < 10 → R v < 100000 ∧ (R v ≠ 0 → v < m 2)) (ha : a < m 2) (hF : 1000 ≤ F) : f3_rootIn F k (nI a) h = some (fr (fi (rq m R a) 10), h) := by
  unfold f3_rootIn
  have L := find_it (B := fun st => f3_rootIn_b2 F k (nI a) st.1 st.2) (rq m R a) (fun w => (nI w, h)) 10 h (F := F) (by omega) (fun i hi hb => by
    show f3_rootIn_b2 F k (nI a) (nI i) h = _
    have nxt : nI i + 1 = nI (i + 1) := nI_1 _
    refine Ev.eq' ?_
    unfold f3_rootIn_b2
    by_cases z : i = 10
    · refine Ev.pos (by rw [z]; simp (disch := omega) only [up_s, up_k, up_j, mm_neg, mm_def, ni_lt, ni_le, ni_eq, ni_mm, mm_ni, ni_lt_mm, ni_le_mm, mm_lt_ni, mm_le_ni, mm_lt_mm, mm_le_mm, ni_cl, ni_in, nI_add, ni_mul, ni_div, ni_rem, ni_rem2, fr_sub, fr_mm, fr_ge0, fr_lt0, fr_inj, l32_0, l32_1, l32_2, l32_3, l32_4, l32_5, l32_6, l32_7, l32_8, l32_9, l32_10, l32_11, l32_12, l32_13, l32_14, l32_15, l32_16, l32_20, l32_24, l32_25, l32_26, l32_31, l32_32, l32_34, l32_35, l32_39, l32_40, l32_44, l32_45, l32_46, l32_47, l32_48, l32_49, l32_57, l32_58, l32_59, l32_63, l32_64, l32_85, l32_90, l32_97, l32_99, l32_100, l32_110, l32_112, l32_122, l32_124, l32_125, l32_255, l32_680, l32_699, l32_700, l32_999, l32_2500, l32_99999, l32_100000, l32_1000000, if_true, if_false, ite_true, ite_false, ce_nm, Option.bind, if_pos, if_neg]; exact Nat.le_refl _) (Ev.some ?_)
      rw [if_pos z]
    · refine Ev.neg (by simp (disch := omega) only [up_s, up_k, up_j, mm_neg, mm_def, ni_lt, ni_le, ni_eq, ni_mm, mm_ni, ni_lt_mm, ni_le_mm, mm_lt_ni, mm_le_ni, mm_lt_mm, mm_le_mm, ni_cl, ni_in, nI_add, ni_mul, ni_div, ni_rem, ni_rem2, fr_sub, fr_mm, fr_ge0, fr_lt0, fr_inj, l32_0, l32_1, l32_2, l32_3, l32_4, l32_5, l32_6, l32_7, l32_8, l32_9, l32_10, l32_11, l32_12, l32_13, l32_14, l32_15, l32_16, l32_20, l32_24, l32_25, l32_26, l32_31, l32_32, l32_34, l32_35, l32_39, l32_40, l32_44, l32_45, l32_46, l32_47, l32_48, l32_49, l32_57, l32_58, l32_59, l32_63, l32_64, l32_85, l32_90, l32_97, l32_99, l32_100, l32_110, l32_112, l32_122, l32_124, l32_125, l32_255, l32_680, l32_699, l32_700, l32_999, l32_2500, l32_99999, l32_100000, l32_1000000, if_true, if_false, ite_true, ite_false, ce_nm, Option.bind, if_pos, if_neg]; omega) (Ev.grd (ni_in (by omega) (by omega)) ?_)
      rw [ni_cl (by omega), if_neg z]
      have hRi := hR i (by omega)
      by_cases y : R i = 0
      · refine Ev.pos (by rw [cR i (by omega), y]; rfl) (Ev.some ?_)
        rw [if_neg (fun q => (bo_t.mp q).1 y), nxt]
      · refine Ev.neg (by rw [cR i (by omega)]; simp (disch := omega) only [up_s, up_k, up_j, mm_neg, mm_def, ni_lt, ni_le, ni_eq, ni_mm, mm_ni, ni_lt_mm, ni_le_mm, mm_lt_ni, mm_le_ni, mm_lt_mm, mm_le_mm, ni_cl, ni_in, nI_add, ni_mul, ni_div, ni_rem, ni_rem2, fr_sub, fr_mm, fr_ge0, fr_lt0, fr_inj, l32_0, l32_1, l32_2, l32_3, l32_4, l32_5, l32_6, l32_7, l32_8, l32_9, l32_10, l32_11, l32_12, l32_13, l32_14, l32_15, l32_16, l32_20, l32_24, l32_25, l32_26, l32_31, l32_32, l32_34, l32_35, l32_39, l32_40, l32_44, l32_45, l32_46, l32_47, l32_48, l32_49, l32_57, l32_58, l32_59, l32_63, l32_64, l32_85, l32_90, l32_97, l32_99, l32_100, l32_110, l32_112, l32_122, l32_124, l32_125, l32_255, l32_680, l32_699, l32_700, l32_999, l32_2500, l32_99999, l32_100000, l32_1000000, if_true, if_false, ite_true, ite_false, ce_nm, Option.bind, if_pos, if_neg]; exact y) ?_
        rw [x_areOne ok c ha (hRi.2 y)]
        refine ev_bs ?_
        dsimp only
        by_cases x : Cn (og m) a i
        · refine Ev.neg (by rw [bo_p x]; decide) (Ev.some ?_)
          rw [if_pos (show rq m R a i = true from bo_p ⟨y, x⟩)]
        · refine Ev.pos (by rw [bo_f x]; rfl) (Ev.some ?_)
          rw [if_neg (fun q => x (bo_t.mp q).2), nxt])
  rw [show ((0 : Int32), h) = (nI 0, h) from rfl, L]
  generalize fi (rq m R a) 10 = q
  by_cases z : q = 0
  · rw [if_pos z, z]
    rfl
  · rw [if_neg z, fr_p (by omega)]
    rfl
theorem x_rootOf {m R : Nat → Nat} {a F : Nat} {h : Hp} (ok : OkG m) (c : MN h m) (cR : ∀ v, v < m 2 → h 80 v = fr (R v)) (hR : ∀ v, v < 10 → R v < 100000 ∧ (R v ≠ 0 → v < m 2)) (ha : a < m 2) (hF : 1000 ≤ F) : Ev (f12_rootOf F (nI a) h) (fun r => r.1 = fr (fi (rq m R a) 10) ∧ Fr 75 75 h r.2 ∧ Lb r.2 m) := by
  have h2 := ok.2.1
  have g := ok.2.2.2.1
  unfold f12_rootOf
  refine Ev.bind (x_laysBuses g c hF) (fun h1 hh => ?_)
  obtain ⟨f1, lb⟩ := hh
  have c1 := c.fr f1 (by omega)
  have L := find_it (B := fun st => f12_rootOf_b6 F (nI a) st.1 st.2) (rq m R a) (fun w => (nI w, h1)) (m 2) h1 (F := F) (by omega) (fun i hi hb => by
    show f12_rootOf_b6 F (nI a) (nI i) h1 = _
    have nxt : nI i + 1 = nI (i + 1) := nI_1 _
    have c2 : h1 69 ((2 : Int32)).toNatClampNeg = nI (m 2) := c1 2 (by omega)
    refine Ev.eq' ?_
    unfold f12_rootOf_b6
    by_cases z : i = m 2
    · refine Ev.pos (by rw [c2, z]; simp (disch := omega) only [up_s, up_k, up_j, mm_neg, mm_def, ni_lt, ni_le, ni_eq, ni_mm, mm_ni, ni_lt_mm, ni_le_mm, mm_lt_ni, mm_le_ni, mm_lt_mm, mm_le_mm, ni_cl, ni_in, nI_add, ni_mul, ni_div, ni_rem, ni_rem2, fr_sub, fr_mm, fr_ge0, fr_lt0, fr_inj, l32_0, l32_1, l32_2, l32_3, l32_4, l32_5, l32_6, l32_7, l32_8, l32_9, l32_10, l32_11, l32_12, l32_13, l32_14, l32_15, l32_16, l32_20, l32_24, l32_25, l32_26, l32_31, l32_32, l32_34, l32_35, l32_39, l32_40, l32_44, l32_45, l32_46, l32_47, l32_48, l32_49, l32_57, l32_58, l32_59, l32_63, l32_64, l32_85, l32_90, l32_97, l32_99, l32_100, l32_110, l32_112, l32_122, l32_124, l32_125, l32_255, l32_680, l32_699, l32_700, l32_999, l32_2500, l32_99999, l32_100000, l32_1000000, if_true, if_false, ite_true, ite_false, ce_nm, Option.bind, if_pos, if_neg]; exact Nat.le_refl _) (Ev.some ?_)
      rw [if_pos z]
    · refine Ev.neg (by rw [c2]; simp (disch := omega) only [up_s, up_k, up_j, mm_neg, mm_def, ni_lt, ni_le, ni_eq, ni_mm, mm_ni, ni_lt_mm, ni_le_mm, mm_lt_ni, mm_le_ni, mm_lt_mm, mm_le_mm, ni_cl, ni_in, nI_add, ni_mul, ni_div, ni_rem, ni_rem2, fr_sub, fr_mm, fr_ge0, fr_lt0, fr_inj, l32_0, l32_1, l32_2, l32_3, l32_4, l32_5, l32_6, l32_7, l32_8, l32_9, l32_10, l32_11, l32_12, l32_13, l32_14, l32_15, l32_16, l32_20, l32_24, l32_25, l32_26, l32_31, l32_32, l32_34, l32_35, l32_39, l32_40, l32_44, l32_45, l32_46, l32_47, l32_48, l32_49, l32_57, l32_58, l32_59, l32_63, l32_64, l32_85, l32_90, l32_97, l32_99, l32_100, l32_110, l32_112, l32_122, l32_124, l32_125, l32_255, l32_680, l32_699, l32_700, l32_999, l32_2500, l32_99999, l32_100000, l32_1000000, if_true, if_false, ite_true, ite_false, ce_nm, Option.bind, if_pos, if_neg]; omega) (Ev.grd (ni_in (by omega) (by omega)) (Ev.grd (ni_in (by omega) (by omega)) ?_))
      rw [ni_cl (by omega : i < 2147483648), ni_cl (by omega : a < 2147483648), if_neg z]
      have l1 := (lst_cn (o := og m) (v := i) (by omega)).2
      have l2 := (lst_cn (o := og m) (v := a) (by omega)).2
      have hRi := hR i (by omega)
      have cRi : h1 80 i = fr (R i) := by rw [f1 80 (by omega)]; exact cR i (by omega)
      by_cases x : Cn (og m) a i
      · have e : lst (og m) a = lst (og m) i := (lst_iff g (by omega) (by omega)).mpr x
        refine Ev.pos (by rw [lb i (by omega), lb a (by omega), e]) (Ev.grd (ni_in (by omega) (by omega)) ?_)
        by_cases y : R i = 0
        · refine Ev.pos (by rw [cRi, y]; rfl) (Ev.some ?_)
          rw [if_neg (fun q => (bo_t.mp q).1 y), nxt]
        · refine Ev.neg (by rw [cRi]; simp (disch := omega) only [up_s, up_k, up_j, mm_neg, mm_def, ni_lt, ni_le, ni_eq, ni_mm, mm_ni, ni_lt_mm, ni_le_mm, mm_lt_ni, mm_le_ni, mm_lt_mm, mm_le_mm, ni_cl, ni_in, nI_add, ni_mul, ni_div, ni_rem, ni_rem2, fr_sub, fr_mm, fr_ge0, fr_lt0, fr_inj, l32_0, l32_1, l32_2, l32_3, l32_4, l32_5, l32_6, l32_7, l32_8, l32_9, l32_10, l32_11, l32_12, l32_13, l32_14, l32_15, l32_16, l32_20, l32_24, l32_25, l32_26, l32_31, l32_32, l32_34, l32_35, l32_39, l32_40, l32_44, l32_45, l32_46, l32_47, l32_48, l32_49, l32_57, l32_58, l32_59, l32_63, l32_64, l32_85, l32_90, l32_97, l32_99, l32_100, l32_110, l32_112, l32_122, l32_124, l32_125, l32_255, l32_680, l32_699, l32_700, l32_999, l32_2500, l32_99999, l32_100000, l32_1000000, if_true, if_false, ite_true, ite_false, ce_nm, Option.bind, if_pos, if_neg]; exact y) (Ev.some ?_)
          rw [if_pos (show rq m R a i = true from bo_p ⟨y, x⟩)]
      · refine Ev.neg (by rw [lb i (by omega), lb a (by omega), ni_eq (by omega) (by omega)]; exact fun q => x ((lst_iff g (by omega) (by omega)).mp q.symm)) (Ev.some ?_)
        rw [if_neg (fun q => x (bo_t.mp q).2), nxt])
  have ex : fi (rq m R a) 10 = fi (rq m R a) (m 2) := fi_ext h2 (fun i h1 h3 => bo_f (fun q => by have := (hR i h3).2 q.1; omega))
  rw [show ((0 : Int32), h1) = (nI 0, h1) from rfl, L, ex]
  generalize fi (rq m R a) (m 2) = q
  by_cases z : q = 0
  · rw [if_pos z, z]
    exact Ev.some ⟨rfl, f1, lb⟩
  · rw [if_neg z, fr_p (by omega)]
    exact Ev.some ⟨rfl, f1, lb⟩
theorem rt_fi {m P R : Nat → Nat} (ok : OkG m) (rt : RT m P R) {a : Nat} (ha : a < m 2) : (∃ r hp, r < m 2 ∧ Cn (og m) a r ∧ R r ≠ 0 ∧ Tr (og m) P r hp ∧ fi (rq m R a) 10 = r + 1) ∨ (sz (og m) a ≤ cb (og m) a ∧ fi (rq m R a) 10 = 0) := by
  have h2 := ok.2.1
  have g := ok.2.2.2.1
  rcases rt.2.2 a ha with ⟨r, h1, h3, h4⟩ | ⟨h1, h3⟩
  · obtain ⟨hp, T⟩ := rt.1 r h1 h4
    refine Or.inl ⟨r, hp, h1, h3, h4, T, fi_one (by omega) (bo_p ⟨h4, h3⟩) (fun i hi q => ?_)⟩
    obtain ⟨q1, q2⟩ := bo_t.mp q
    exact rt.2.1 r i h1 (cn_lt ok q2 ha) h4 q1 ((h3.symm g).trans q2)
  · exact Or.inr ⟨h1, fi_none (fun i hi => bo_f (fun q => q.1 (h3 i q.2)))⟩
theorem x_nodeWith {m P R : Nat → Nat} {kn r a w j F : Nat} {h : Hp} {hp : Nat → Nat} (ok : OkG m) (c : CS h kn m) (T : Tr (og m) P r hp) (hr : r < m 2) (hR : R r ≠ 0) (nm : NM h m P R) (ha : Cn (og m) r a) (hw : Cn (og m) r w) (hj : ids (og m) P r w = j + 1) : f4_nodeWith F (nI a) (nI j) h = some (nI w, h) := by
  have g := ok.2.2.2.1
  have ha2 := cn_lt ok ha hr
  have h2 := ok.2.1
  have b1 := (ids_spec T).1 w hw
  rw [ids_sz T] at b1
  have s10 : sz (og m) r ≤ 10 := ct_le _ _
  have hl : lst (og m) a = lst (og m) r := (lst_iff g (by omega) (by omega)).mpr (ha.symm g)
  have l10 := (lst_cn (o := og m) (v := r) (by omega)).2
  have e64 := ((nm r hr hR).1 w hw).2
  rw [hj, show j + 1 - 1 = j from rfl] at e64
  have e10 : nI (lst (og m) r) * (10 : Int32) + nI j = nI (10 * lst (og m) r + j) := by rw [l32_10, ni_mul, nI_add, Nat.mul_comm]
  refine Ev.eq ?_
  unfold f4_nodeWith
  refine Ev.neg (by simp (disch := omega) only [up_s, up_k, up_j, mm_neg, mm_def, ni_lt, ni_le, ni_eq, ni_mm, mm_ni, ni_lt_mm, ni_le_mm, mm_lt_ni, mm_le_ni, mm_lt_mm, mm_le_mm, ni_cl, ni_in, nI_add, ni_mul, ni_div, ni_rem, ni_rem2, fr_sub, fr_mm, fr_ge0, fr_lt0, fr_inj, l32_0, l32_1, l32_2, l32_3, l32_4, l32_5, l32_6, l32_7, l32_8, l32_9, l32_10, l32_11, l32_12, l32_13, l32_14, l32_15, l32_16, l32_20, l32_24, l32_25, l32_26, l32_31, l32_32, l32_34, l32_35, l32_39, l32_40, l32_44, l32_45, l32_46, l32_47, l32_48, l32_49, l32_57, l32_58, l32_59, l32_63, l32_64, l32_85, l32_90, l32_97, l32_99, l32_100, l32_110, l32_112, l32_122, l32_124, l32_125, l32_255, l32_680, l32_699, l32_700, l32_999, l32_2500, l32_99999, l32_100000, l32_1000000, if_true, if_false, ite_true, ite_false, ce_nm, Option.bind, if_pos, if_neg]; omega) (Ev.pos (by simp (disch := omega) only [up_s, up_k, up_j, mm_neg, mm_def, ni_lt, ni_le, ni_eq, ni_mm, mm_ni, ni_lt_mm, ni_le_mm, mm_lt_ni, mm_le_ni, mm_lt_mm, mm_le_mm, ni_cl, ni_in, nI_add, ni_mul, ni_div, ni_rem, ni_rem2, fr_sub, fr_mm, fr_ge0, fr_lt0, fr_inj, l32_0, l32_1, l32_2, l32_3, l32_4, l32_5, l32_6, l32_7, l32_8, l32_9, l32_10, l32_11, l32_12, l32_13, l32_14, l32_15, l32_16, l32_20, l32_24, l32_25, l32_26, l32_31, l32_32, l32_34, l32_35, l32_39, l32_40, l32_44, l32_45, l32_46, l32_47, l32_48, l32_49, l32_57, l32_58, l32_59, l32_63, l32_64, l32_85, l32_90, l32_97, l32_99, l32_100, l32_110, l32_112, l32_122, l32_124, l32_125, l32_255, l32_680, l32_699, l32_700, l32_999, l32_2500, l32_99999, l32_100000, l32_1000000, if_true, if_false, ite_true, ite_false, ce_nm, Option.bind, if_pos, if_neg]; omega) ?_)
  rw [x_leastOf ok c ha2, hl]
  refine ev_bs ?_
  dsimp only
  rw [e10]
  refine Ev.grd (ni_in (by omega) (by omega)) (Ev.some ?_)
  rw [ni_cl (by omega), e64]
theorem x_nodeWithout {m P R : Nat → Nat} {kn r a F : Nat} {h : Hp} {hp : Nat → Nat} (x : Int32) (ok : OkG m) (c : CS h kn m) (T : Tr (og m) P r hp) (hr : r < m 2) (hR : R r ≠ 0) (nm : NM h m P R) (ha : Cn (og m) r a) (hx : ∀ j, j < sz (og m) r → x ≠ nI j) : f4_nodeWith F (nI a) x h = some (mm, h) := by
  have g := ok.2.2.2.1
  have ha2 := cn_lt ok ha hr
  have h2 := ok.2.1
  have hl : lst (og m) a = lst (og m) r := (lst_iff g (by omega) (by omega)).mpr (ha.symm g)
  have l10 := (lst_cn (o := og m) (v := r) (by omega)).2
  refine Ev.eq ?_
  unfold f4_nodeWith
  rcases i32_of x with hx0 | ⟨j, hj, rfl⟩
  · exact Ev.pos hx0 (Ev.some rfl)
  · have hjs : sz (og m) r ≤ j := Classical.byContradiction (fun q => hx j (by omega) rfl)
    refine Ev.neg (by simp (disch := omega) only [up_s, up_k, up_j, mm_neg, mm_def, ni_lt, ni_le, ni_eq, ni_mm, mm_ni, ni_lt_mm, ni_le_mm, mm_lt_ni, mm_le_ni, mm_lt_mm, mm_le_mm, ni_cl, ni_in, nI_add, ni_mul, ni_div, ni_rem, ni_rem2, fr_sub, fr_mm, fr_ge0, fr_lt0, fr_inj, l32_0, l32_1, l32_2, l32_3, l32_4, l32_5, l32_6, l32_7, l32_8, l32_9, l32_10, l32_11, l32_12, l32_13, l32_14, l32_15, l32_16, l32_20, l32_24, l32_25, l32_26, l32_31, l32_32, l32_34, l32_35, l32_39, l32_40, l32_44, l32_45, l32_46, l32_47, l32_48, l32_49, l32_57, l32_58, l32_59, l32_63, l32_64, l32_85, l32_90, l32_97, l32_99, l32_100, l32_110, l32_112, l32_122, l32_124, l32_125, l32_255, l32_680, l32_699, l32_700, l32_999, l32_2500, l32_99999, l32_100000, l32_1000000, if_true, if_false, ite_true, ite_false, ce_nm, Option.bind, if_pos, if_neg]; omega) ?_
    by_cases z : j < 10
    · refine Ev.pos (by simp (disch := omega) only [up_s, up_k, up_j, mm_neg, mm_def, ni_lt, ni_le, ni_eq, ni_mm, mm_ni, ni_lt_mm, ni_le_mm, mm_lt_ni, mm_le_ni, mm_lt_mm, mm_le_mm, ni_cl, ni_in, nI_add, ni_mul, ni_div, ni_rem, ni_rem2, fr_sub, fr_mm, fr_ge0, fr_lt0, fr_inj, l32_0, l32_1, l32_2, l32_3, l32_4, l32_5, l32_6, l32_7, l32_8, l32_9, l32_10, l32_11, l32_12, l32_13, l32_14, l32_15, l32_16, l32_20, l32_24, l32_25, l32_26, l32_31, l32_32, l32_34, l32_35, l32_39, l32_40, l32_44, l32_45, l32_46, l32_47, l32_48, l32_49, l32_57, l32_58, l32_59, l32_63, l32_64, l32_85, l32_90, l32_97, l32_99, l32_100, l32_110, l32_112, l32_122, l32_124, l32_125, l32_255, l32_680, l32_699, l32_700, l32_999, l32_2500, l32_99999, l32_100000, l32_1000000, if_true, if_false, ite_true, ite_false, ce_nm, Option.bind, if_pos, if_neg]; exact z) ?_
      rw [x_leastOf ok c ha2, hl]
      refine ev_bs ?_
      dsimp only
      have e10 : nI (lst (og m) r) * (10 : Int32) + nI j = nI (10 * lst (og m) r + j) := by rw [l32_10, ni_mul, nI_add, Nat.mul_comm]
      rw [e10]
      refine Ev.grd (ni_in (by omega) (by omega)) (Ev.some ?_)
      rw [ni_cl (by omega), (nm r hr hR).2 j hjs z]
    · exact Ev.neg (by simp (disch := omega) only [up_s, up_k, up_j, mm_neg, mm_def, ni_lt, ni_le, ni_eq, ni_mm, mm_ni, ni_lt_mm, ni_le_mm, mm_lt_ni, mm_le_ni, mm_lt_mm, mm_le_mm, ni_cl, ni_in, nI_add, ni_mul, ni_div, ni_rem, ni_rem2, fr_sub, fr_mm, fr_ge0, fr_lt0, fr_inj, l32_0, l32_1, l32_2, l32_3, l32_4, l32_5, l32_6, l32_7, l32_8, l32_9, l32_10, l32_11, l32_12, l32_13, l32_14, l32_15, l32_16, l32_20, l32_24, l32_25, l32_26, l32_31, l32_32, l32_34, l32_35, l32_39, l32_40, l32_44, l32_45, l32_46, l32_47, l32_48, l32_49, l32_57, l32_58, l32_59, l32_63, l32_64, l32_85, l32_90, l32_97, l32_99, l32_100, l32_110, l32_112, l32_122, l32_124, l32_125, l32_255, l32_680, l32_699, l32_700, l32_999, l32_2500, l32_99999, l32_100000, l32_1000000, if_true, if_false, ite_true, ite_false, ce_nm, Option.bind, if_pos, if_neg]; exact z) (Ev.some rfl)
theorem x_leastIn {c F : Nat} {h : Hp} (hc : c < 1024) (hF : 1000 ≤ F) : f11_leastIn F (nI c) h = some (nI (fi (inS c) 10 - 1), h) := by
  unfold f11_leastIn
  have L := find_it (B := fun st => f11_leastIn_b2 F (nI c) st.1 st.2) (inS c) (fun w => (nI w, h)) 10 h (F := F) (by omega) (fun i hi hb => by
    show f11_leastIn_b2 F (nI c) (nI i) h = _
    have nxt : nI i + 1 = nI (i + 1) := nI_1 _
    refine Ev.eq' ?_
    unfold f11_leastIn_b2
    by_cases z : i = 10
    · refine Ev.pos (by rw [z]; simp (disch := omega) only [up_s, up_k, up_j, mm_neg, mm_def, ni_lt, ni_le, ni_eq, ni_mm, mm_ni, ni_lt_mm, ni_le_mm, mm_lt_ni, mm_le_ni, mm_lt_mm, mm_le_mm, ni_cl, ni_in, nI_add, ni_mul, ni_div, ni_rem, ni_rem2, fr_sub, fr_mm, fr_ge0, fr_lt0, fr_inj, l32_0, l32_1, l32_2, l32_3, l32_4, l32_5, l32_6, l32_7, l32_8, l32_9, l32_10, l32_11, l32_12, l32_13, l32_14, l32_15, l32_16, l32_20, l32_24, l32_25, l32_26, l32_31, l32_32, l32_34, l32_35, l32_39, l32_40, l32_44, l32_45, l32_46, l32_47, l32_48, l32_49, l32_57, l32_58, l32_59, l32_63, l32_64, l32_85, l32_90, l32_97, l32_99, l32_100, l32_110, l32_112, l32_122, l32_124, l32_125, l32_255, l32_680, l32_699, l32_700, l32_999, l32_2500, l32_99999, l32_100000, l32_1000000, if_true, if_false, ite_true, ite_false, ce_nm, Option.bind, if_pos, if_neg]; exact Nat.le_refl _) (Ev.some ?_)
      rw [if_pos z]
    · refine Ev.neg (by simp (disch := omega) only [up_s, up_k, up_j, mm_neg, mm_def, ni_lt, ni_le, ni_eq, ni_mm, mm_ni, ni_lt_mm, ni_le_mm, mm_lt_ni, mm_le_ni, mm_lt_mm, mm_le_mm, ni_cl, ni_in, nI_add, ni_mul, ni_div, ni_rem, ni_rem2, fr_sub, fr_mm, fr_ge0, fr_lt0, fr_inj, l32_0, l32_1, l32_2, l32_3, l32_4, l32_5, l32_6, l32_7, l32_8, l32_9, l32_10, l32_11, l32_12, l32_13, l32_14, l32_15, l32_16, l32_20, l32_24, l32_25, l32_26, l32_31, l32_32, l32_34, l32_35, l32_39, l32_40, l32_44, l32_45, l32_46, l32_47, l32_48, l32_49, l32_57, l32_58, l32_59, l32_63, l32_64, l32_85, l32_90, l32_97, l32_99, l32_100, l32_110, l32_112, l32_122, l32_124, l32_125, l32_255, l32_680, l32_699, l32_700, l32_999, l32_2500, l32_99999, l32_100000, l32_1000000, if_true, if_false, ite_true, ite_false, ce_nm, Option.bind, if_pos, if_neg]; omega) ?_
      rw [x_holds hc (by omega), if_neg z]
      refine ev_bs ?_
      dsimp only
      by_cases y : inS c i = true
      · refine Ev.neg (by rw [if_pos y]; decide) (Ev.some ?_)
        rw [if_pos y]
      · refine Ev.pos (by rw [if_neg y]; rfl) (Ev.some ?_)
        rw [if_neg y, nxt])
  rw [show ((0 : Int32), h) = (nI 0, h) from rfl, L]
  generalize fi (inS c) 10 = q
  by_cases z : q = 0
  · rw [if_pos z, z]
    rfl
  · rw [if_neg z]
    rfl
theorem x_ask {m P R : Nat → Nat} {k kn r c F : Nat} {h : Hp} {hp : Nat → Nat} (hk : ce_isEl k) (ok : OkG m) (cs : CS h kn m) (T : Tr (og m) P r hp) (hr : r < m 2) (hR : R r ≠ 0) (nm : NM h m P R) (cp : ∀ v, v < 10 → h (k + 4) v = fr (P v)) (hc : c < 1024) (ha : Cn (og m) r (fi (inS c) 10 - 1)) (hF : 1000 ≤ F) :
    Ev (f1_ask F kn k (nI c) h) (fun h' => Fr 65 67 h h' ∧ h' 65 0 = fr (aw m P c 12 r).1 ∧ ((aw m P c 12 r).1 ≠ 0 → h' 65 1 = nI (2 * (aw m P c 12 r).2))) := by
  have bk := el_ge hk
  have hkn := cs.2.1
  have bn := net_le hkn
  have g := ok.2.2.2.1
  have h2 := ok.2.1
  have ha2 := cn_lt ok ha hr
  have s10 : sz (og m) r ≤ 10 := ct_le _ _
  have sp := ids_spec T
  rw [ids_sz T] at sp
  obtain ⟨i1, i2, i3, i4, i5⟩ := sp
  have hp1 := T.2.2.2.2.1
  unfold f1_ask
  rw [x_leastIn hc hF]
  refine ev_bs ?_
  dsimp only
  rw [x_nodesIn ok cs ha2, sz_eq g (ha.symm g)]
  refine ev_bs (Ev.nm ?_)
  dsimp only
  obtain ⟨a, hae⟩ : ∃ a, a = fi (inS c) 10 - 1 := ⟨_, rfl⟩
  rw [← hae] at ha ha2 ⊢
  refine Ev.bind (P := fun h' => Fr 65 67 h h' ∧ h' 65 0 = fr (aw m P c 12 r).1 ∧ ((aw m P c 12 r).1 ≠ 0 → h' 65 1 = nI (2 * (aw m P c 12 r).2))) ?_ (fun h' hh => Ev.some hh)
  have s1 := i1 r (Cn.refl _ _)
  refine Ev.it (I := fun i st => st.1 = nI i ∧ Fr 65 67 h st.2 ∧ (∀ w, Cn (og m) r w → ids (og m) P r w ≤ i → st.2 66 w = fr (aw m P c (13 - hp w) w).1 ∧ st.2 67 w = A1 (aw m P c (13 - hp w) w)) ∧ (i = sz (og m) r → st.2 65 0 = fr (aw m P c 12 r).1 ∧ ((aw m P c 12 r).1 ≠ 0 → st.2 65 1 = nI (2 * (aw m P c 12 r).2)))) _ (sz (og m) r) ?_ F 0 _ (by omega) (by omega) ⟨rfl, (up_fr _ _ _ _).wide (by omega) (by omega), fun w hw q => by have := i1 w hw; omega, fun q => by omega⟩
  rintro i ⟨x, h3⟩ hi hI
  obtain ⟨rfl, f3, done, last⟩ : x = nI i ∧ Fr 65 67 h h3 ∧ (∀ w, Cn (og m) r w → ids (og m) P r w ≤ i → h3 66 w = fr (aw m P c (13 - hp w) w).1 ∧ h3 67 w = A1 (aw m P c (13 - hp w) w)) ∧ (i = sz (og m) r → h3 65 0 = fr (aw m P c 12 r).1 ∧ ((aw m P c 12 r).1 ≠ 0 → h3 65 1 = nI (2 * (aw m P c 12 r).2))) := hI
  show Ev (f1_ask_b24 F kn k (nI c) (nI a) (nI (sz (og m) r)) (nI i) h3) _
  have cs3 := cs.fr f3 (by omega)
  have nxt : nI i + 1 = nI (i + 1) := nI_1 _
  have nm3 : NM h3 m P R := fun r' hr' hR' => by
    rw [f3 63 (by omega), f3 64 (by omega)]
    exact nm r' hr' hR'
  unfold f1_ask_b24
  by_cases z : i = sz (og m) r
  · exact Ev.pos (by rw [z]; simp (disch := omega) only [up_s, up_k, up_j, mm_neg, mm_def, ni_lt, ni_le, ni_eq, ni_mm, mm_ni, ni_lt_mm, ni_le_mm, mm_lt_ni, mm_le_ni, mm_lt_mm, mm_le_mm, ni_cl, ni_in, nI_add, ni_mul, ni_div, ni_rem, ni_rem2, fr_sub, fr_mm, fr_ge0, fr_lt0, fr_inj, l32_0, l32_1, l32_2, l32_3, l32_4, l32_5, l32_6, l32_7, l32_8, l32_9, l32_10, l32_11, l32_12, l32_13, l32_14, l32_15, l32_16, l32_20, l32_24, l32_25, l32_26, l32_31, l32_32, l32_34, l32_35, l32_39, l32_40, l32_44, l32_45, l32_46, l32_47, l32_48, l32_49, l32_57, l32_58, l32_59, l32_63, l32_64, l32_85, l32_90, l32_97, l32_99, l32_100, l32_110, l32_112, l32_122, l32_124, l32_125, l32_255, l32_680, l32_699, l32_700, l32_999, l32_2500, l32_99999, l32_100000, l32_1000000, if_true, if_false, ite_true, ite_false, ce_nm, Option.bind, if_pos, if_neg]; exact Nat.le_refl _) (Ev.some ⟨f3, last z⟩)
  · refine Ev.neg (by simp (disch := omega) only [up_s, up_k, up_j, mm_neg, mm_def, ni_lt, ni_le, ni_eq, ni_mm, mm_ni, ni_lt_mm, ni_le_mm, mm_lt_ni, mm_le_ni, mm_lt_mm, mm_le_mm, ni_cl, ni_in, nI_add, ni_mul, ni_div, ni_rem, ni_rem2, fr_sub, fr_mm, fr_ge0, fr_lt0, fr_inj, l32_0, l32_1, l32_2, l32_3, l32_4, l32_5, l32_6, l32_7, l32_8, l32_9, l32_10, l32_11, l32_12, l32_13, l32_14, l32_15, l32_16, l32_20, l32_24, l32_25, l32_26, l32_31, l32_32, l32_34, l32_35, l32_39, l32_40, l32_44, l32_45, l32_46, l32_47, l32_48, l32_49, l32_57, l32_58, l32_59, l32_63, l32_64, l32_85, l32_90, l32_97, l32_99, l32_100, l32_110, l32_112, l32_122, l32_124, l32_125, l32_255, l32_680, l32_699, l32_700, l32_999, l32_2500, l32_99999, l32_100000, l32_1000000, if_true, if_false, ite_true, ite_false, ce_nm, Option.bind, if_pos, if_neg]; omega) ?_
    obtain ⟨w, w1, w2⟩ := i2 (i + 1) (by omega) (by omega)
    have hw10 := T.lt w1
    have hpw := T.2.2.2.2.2.1 w hw10 w1
    rw [x_nodeWith ok cs3 T hr hR nm3 ha w1 w2]
    refine ev_bs ?_
    dsimp only
    refine Ev.neg (by simp (disch := omega) only [up_s, up_k, up_j, mm_neg, mm_def, ni_lt, ni_le, ni_eq, ni_mm, mm_ni, ni_lt_mm, ni_le_mm, mm_lt_ni, mm_le_ni, mm_lt_mm, mm_le_mm, ni_cl, ni_in, nI_add, ni_mul, ni_div, ni_rem, ni_rem2, fr_sub, fr_mm, fr_ge0, fr_lt0, fr_inj, l32_0, l32_1, l32_2, l32_3, l32_4, l32_5, l32_6, l32_7, l32_8, l32_9, l32_10, l32_11, l32_12, l32_13, l32_14, l32_15, l32_16, l32_20, l32_24, l32_25, l32_26, l32_31, l32_32, l32_34, l32_35, l32_39, l32_40, l32_44, l32_45, l32_46, l32_47, l32_48, l32_49, l32_57, l32_58, l32_59, l32_63, l32_64, l32_85, l32_90, l32_97, l32_99, l32_100, l32_110, l32_112, l32_122, l32_124, l32_125, l32_255, l32_680, l32_699, l32_700, l32_999, l32_2500, l32_99999, l32_100000, l32_1000000, if_true, if_false, ite_true, ite_false, ce_nm, Option.bind, if_pos, if_neg]; exact id) ?_
    have ef : 13 - hp w = (12 - hp w) + 1 := by omega
    refine Ev.bind (x_hear (d := 12 - hp w) hkn hk ok T hr cs3.2.2.1 (fun v hv => by rw [f3 _ (by omega)]; exact cp v hv) hc w1 (by omega) (fun u u1 u2 u3 => ?_) hF) (fun h4 hh => ?_)
    · have q := (T.prn u1 u2).2
      rw [u3] at q
      have d := i5 u u1 u2
      rw [u3, w2] at d
      have := done u u1 (by omega)
      rw [show 13 - hp u = 12 - hp w by omega] at this
      exact this
    · obtain ⟨q1, q2, q3, q4⟩ := hh
      rw [← ef] at q3 q4
      refine Ev.grd (ni_in (by omega) hw10) (Ev.nm (Ev.grd (ni_in (by omega) hw10) (Ev.nm (Ev.some ⟨by omega, nxt, ?_, fun u u1 u2 => ?_, fun q => ?_⟩))))
      · intro cc hcc
        show hp_up (hp_up h4 65 0 _) 65 1 _ cc = h cc
        rw [up_kk _ _ _ _ _ (by omega), up_kk _ _ _ _ _ (by omega), q1 cc (by omega) (by omega)]
        exact f3 cc hcc
      · dsimp only
        rw [up_k _ _ _ _ _ _ (by omega), up_k _ _ _ _ _ _ (by omega), up_k _ _ _ _ _ _ (by omega), up_k _ _ _ _ _ _ (by omega)]
        by_cases y : u = w
        · rw [y]; exact ⟨q3, q4⟩
        · have : ids (og m) P r u ≠ i + 1 := fun q => y (i3 u w u1 w1 (by omega))
          rw [(q2 u y).1, (q2 u y).2]
          exact done u u1 (by omega)
      · have wr : w = r := i3 w r w1 (Cn.refl _ _) (by omega)
        rw [wr, hp1] at q3 q4
        dsimp only
        rw [wr, ni_cl (by omega)]
        refine ⟨?_, fun ne => ?_⟩
        · rw [up_j _ _ _ _ _ (by omega), up_s]; exact q3
        · rw [up_s, up_k _ _ _ _ _ _ (by omega), q4]
          unfold A1
          rw [if_neg ne, l32_2, ni_mul]
theorem x_winsOf {m P R : Nat → Nat} {r c F : Nat} {h : Hp} {hp : Nat → Nat} (ok : OkG m) (cm : MN h m) (T : Tr (og m) P r hp) (hr : r < m 2) (cR : ∀ v, v < m 2 → h 80 v = fr (R v)) (hR : ∀ v, v < 10 → R v < 100000 ∧ (R v ≠ 0 → v < m 2)) (cp : ∀ v, v < m 2 → h 82 v = fr (P v)) (hc : c < 1024) (hn : fi (inS c) 10 ≠ 0) (ha : Cn (og m) r (fi (inS c) 10 - 1)) (hfi : fi (rq m R (fi (inS c) 10 - 1)) 10 = r + 1) (hF : 1000 ≤ F) :
    Ev (f12_winsOf F (nI c) h) (fun h' => (∀ q, q ≠ 75 → q ≠ 94 → q ≠ 95 → q ≠ 68 → h' q = h q) ∧ (∀ j, j ≠ 41 → j ≠ 42 → h' 68 j = h 68 j) ∧ Lb h' m ∧ h' 68 41 = fr (aw m P c 12 r).1 ∧ h' 68 42 = nI (2 * (aw m P c 12 r).2)) := by
  have h2 := ok.2.1
  have ha2 := cn_lt ok ha hr
  have hp1 := T.2.2.2.2.1
  unfold f12_winsOf
  have fs := fi_spec (inS c) 10
  obtain ⟨a, hae⟩ : ∃ a, a = fi (inS c) 10 - 1 := ⟨_, rfl⟩
  rw [← hae] at ha ha2 hfi
  refine Ev.bind (P := fun o => o = (nI a, h)) ?_ (fun o ho => ?_)
  · refine Ev.it (I := fun i st => st = (nI i, h) ∧ i ≤ a) _ a ?_ F 0 _ (by omega) (by omega) ⟨rfl, by omega⟩
    rintro i st hi ⟨rfl, hia⟩
    show Ev (f12_winsOf_b2 F (nI c) (nI i) h) _
    unfold f12_winsOf_b2
    rw [x_has hc (by omega)]
    refine ev_bs ?_
    dsimp only
    rcases fs with ⟨q1, q2⟩ | ⟨q1, q2, q3, q4⟩
    · exact absurd q1 hn
    · rw [← hae] at q3 q4
      by_cases z : i = a
      · refine Ev.neg (by rw [z, if_pos q3]; decide) (Ev.some ?_)
        rw [z]
      · have := q4 i (by omega)
        refine Ev.pos (by rw [this]; rfl) (Ev.some ⟨by omega, ?_, by omega⟩)
        rw [show nI i + 1 = nI (i + 1) from nI_1 _]
  · subst ho
    dsimp only
    refine Ev.bind (x_rootOf ok cm cR hR ha2 hF) (fun o ho => ?_)
    obtain ⟨o1, f1, lb⟩ := ho
    rw [o1, hfi, fr_s]
    refine Ev.bind (x_asks ok T hc hF 12 r o.2 (by omega) (Cn.refl _ _) (by omega) (cm.fr f1 (by omega)) (fun v hv => by rw [f1 _ (by omega)]; exact cp v hv)) (fun h3 hh => ?_)
    obtain ⟨f3, q1, q2⟩ := hh
    refine Ev.grd (ni_in (by omega) (by omega)) (Ev.nm (Ev.grd (ni_in (by omega) (by omega)) (Ev.nm (Ev.some ⟨fun q w1 w2 w3 w4 => ?_, fun j j1 j2 => ?_, fun v hv => ?_, ?_, ?_⟩))))
    · rw [up_kk _ _ _ _ _ w4, up_kk _ _ _ _ _ w4, f3.1 q w2 w3, f1 q (by omega)]
    · rw [up_j _ _ _ _ _ j2, up_j _ _ _ _ _ j1, f3.1 68 (by omega) (by omega), f1 68 (by omega)]
    · rw [up_k _ _ _ _ _ _ (by omega), up_k _ _ _ _ _ _ (by omega), f3.1 75 (by omega) (by omega)]
      exact lb v hv
    · rw [up_j _ _ _ _ _ (by omega), up_s, ni_cl (by omega)]; exact q1
    · rw [up_s, up_k _ _ _ _ _ _ (by omega), ni_cl (by omega), q2, l32_2, ni_mul]
