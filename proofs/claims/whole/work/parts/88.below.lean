-- below
theorem par_cn {m P : Nat → Nat} (po : PO (og m) P) {u : Nat} (hu : u < 10) {x : Nat} (h : par (og m) P u = x + 1) : Cn (og m) u x ∧ P u ≠ 0 ∧ pr (og m) P u = x := by
  unfold par at h
  by_cases z : P u = 0
  · rw [if_pos z] at h; omega
  · rw [if_neg z] at h
    obtain ⟨a, b, c⟩ := po u hu z
    have e : (og m (P u - 1) - 1) / 4 = x := by omega
    refine ⟨?_, z, e⟩
    have := Cn.step (o := og m) (a := u) (e := P u - 1) (by omega) c (by rw [b]; exact Cn.refl _ _)
    rw [e] at this
    exact this
theorem x_cbelow {m : Nat → Nat} {kn v r w F : Nat} {hp : Nat → Nat} {h : Hp} (c : Co h m kn) (l : Liv h m) (tf : Tf m v r hp) (hw : w < m 2) (hF : 1000 ≤ F) : f3_isBelow F 48 kn (nI w) (nI v) h = some (if bo (Cn (og m) r w ∧ bl (og m) (Pf m (sM m)) hp v w) = true then nI 1 else nI 0, h) := by
  have on := c.2.2.1
  obtain ⟨hv, hr, hc, hR, T, hfi, tr⟩ := tf
  have h2 := on.1.2.1
  have g := on.1.2.2.2.1
  have b := net_le c.2.1
  have cp : ∀ u, u < 10 → f3_parentOf F 48 kn (nI u) h = some (fr (par (og m) (Pf m (sM m)) u), h) := fun u hu => x_cparent on.1 c.2.2.2.2.1.1 T.2.1 (fun v hv => (l.el hv).2.2.2) hu
  refine Ev.eq ?_
  unfold f3_isBelow
  by_cases hwr : Cn (og m) r w
  · have hb := T.2.2.2.2.2.1 w (by omega) hwr
    have up := T.up hwr
    by_cases bv : bl (og m) (Pf m (sM m)) hp v w
    · have b1 := bv.1
      have b2 := bv.2
      have hv1 := (T.2.2.2.2.2.1 v (by omega) hc).1
      refine Ev.bind (P := fun o => o = (nI v, h)) ?_ (fun o ho => by
        rw [ho]
        refine Ev.pos rfl (Ev.some ?_)
        rw [bo_p ⟨hwr, bv⟩]
        rfl)
      refine Ev.it (I := fun i st => i ≤ hp w - hp v ∧ st = (nI (upn (og m) (Pf m (sM m)) i w), nI i, h)) _ 10 ?_ F 0 _ (by omega) (by omega) ⟨by omega, rfl⟩
      rintro i st hi ⟨hi2, rfl⟩
      show Ev (f3_isBelow_b6 F 48 kn (nI v) (nI (upn (og m) (Pf m (sM m)) i w)) (nI i) h) _
      obtain ⟨u1, u2⟩ := up i (by omega)
      have hu10 := T.lt u1
      have pe := T.parn u1
      unfold f3_isBelow_b6
      refine Ev.neg (by simp (disch := omega) only [up_s, up_k, up_j, mm_neg, mm_def, ni_lt, ni_le, ni_eq, ni_mm, mm_ni, ni_lt_mm, ni_le_mm, mm_lt_ni, mm_le_ni, mm_lt_mm, mm_le_mm, ni_cl, ni_in, nI_add, ni_mul, ni_div, ni_rem, ni_rem2, fr_sub, fr_mm, fr_ge0, fr_lt0, fr_inj, l32_0, l32_1, l32_2, l32_3, l32_4, l32_5, l32_6, l32_7, l32_8, l32_9, l32_10, l32_11, l32_12, l32_13, l32_14, l32_15, l32_16, l32_20, l32_24, l32_25, l32_26, l32_31, l32_32, l32_34, l32_35, l32_39, l32_40, l32_44, l32_45, l32_46, l32_47, l32_48, l32_49, l32_57, l32_58, l32_59, l32_63, l32_64, l32_85, l32_90, l32_97, l32_99, l32_100, l32_110, l32_112, l32_122, l32_124, l32_125, l32_255, l32_680, l32_699, l32_700, l32_999, l32_2500, l32_99999, l32_100000, l32_1000000, if_true, if_false, ite_true, ite_false, ce_nm, Option.bind, if_pos, if_neg]; omega) (Ev.neg (by simp (disch := omega) only [up_s, up_k, up_j, mm_neg, mm_def, ni_lt, ni_le, ni_eq, ni_mm, mm_ni, ni_lt_mm, ni_le_mm, mm_lt_ni, mm_le_ni, mm_lt_mm, mm_le_mm, ni_cl, ni_in, nI_add, ni_mul, ni_div, ni_rem, ni_rem2, fr_sub, fr_mm, fr_ge0, fr_lt0, fr_inj, l32_0, l32_1, l32_2, l32_3, l32_4, l32_5, l32_6, l32_7, l32_8, l32_9, l32_10, l32_11, l32_12, l32_13, l32_14, l32_15, l32_16, l32_20, l32_24, l32_25, l32_26, l32_31, l32_32, l32_34, l32_35, l32_39, l32_40, l32_44, l32_45, l32_46, l32_47, l32_48, l32_49, l32_57, l32_58, l32_59, l32_63, l32_64, l32_85, l32_90, l32_97, l32_99, l32_100, l32_110, l32_112, l32_122, l32_124, l32_125, l32_255, l32_680, l32_699, l32_700, l32_999, l32_2500, l32_99999, l32_100000, l32_1000000, if_true, if_false, ite_true, ite_false, ce_nm, Option.bind, if_pos, if_neg]; exact id) ?_)
      by_cases z : i = hp w - hp v
      · rw [z, b2]
        exact Ev.pos rfl (Ev.some rfl)
      · have ne : upn (og m) (Pf m (sM m)) i w ≠ v := fun q => by rw [q] at u2; omega
        refine Ev.neg (by rw [ni_eq (by omega) (by omega)]; exact ne) ?_
        rw [u2, if_neg (by omega)] at pe
        rw [cp _ hu10, pe, fr_s]
        refine ev_bs (Ev.some ⟨by omega, by omega, ?_⟩)
        rw [show nI i + 1 = nI (i + 1) from nI_1 _]
        rfl
    · refine Ev.bind (P := fun o => ∃ X, o = (X, h) ∧ X ≠ nI v) ?_ (fun o ho => by
        obtain ⟨X, e, n⟩ := ho
        rw [e]
        refine Ev.neg n (Ev.some ?_)
        rw [bo_f (fun q => bv q.2)]
        rfl)
      refine Ev.it (I := fun i st => i ≤ hp w ∧ st = (if i < hp w then nI (upn (og m) (Pf m (sM m)) i w) else mm, nI i, h)) _ 10 ?_ F 0 _ (by omega) (by omega) ⟨by omega, by rw [if_pos (by omega)]; rfl⟩
      rintro i st hi ⟨hi2, rfl⟩
      show Ev (f3_isBelow_b6 F 48 kn (nI v) (if i < hp w then nI (upn (og m) (Pf m (sM m)) i w) else mm) (nI i) h) _
      unfold f3_isBelow_b6
      by_cases lt : i < hp w
      · rw [if_pos lt]
        obtain ⟨u1, u2⟩ := up i lt
        have hu10 := T.lt u1
        have pe := T.parn u1
        have ne : upn (og m) (Pf m (sM m)) i w ≠ v := fun q => bv ⟨by rw [q] at u2; omega, by rw [q] at u2; rw [show hp w - hp v = i by omega]; exact q⟩
        have ne' : nI (upn (og m) (Pf m (sM m)) i w) ≠ nI v := fun q => by rw [ni_eq (by omega) (by omega)] at q; exact ne q
        by_cases h10 : 10 ≤ i
        · exact Ev.pos (by simp (disch := omega) only [up_s, up_k, up_j, mm_neg, mm_def, ni_lt, ni_le, ni_eq, ni_mm, mm_ni, ni_lt_mm, ni_le_mm, mm_lt_ni, mm_le_ni, mm_lt_mm, mm_le_mm, ni_cl, ni_in, nI_add, ni_mul, ni_div, ni_rem, ni_rem2, fr_sub, fr_mm, fr_ge0, fr_lt0, fr_inj, l32_0, l32_1, l32_2, l32_3, l32_4, l32_5, l32_6, l32_7, l32_8, l32_9, l32_10, l32_11, l32_12, l32_13, l32_14, l32_15, l32_16, l32_20, l32_24, l32_25, l32_26, l32_31, l32_32, l32_34, l32_35, l32_39, l32_40, l32_44, l32_45, l32_46, l32_47, l32_48, l32_49, l32_57, l32_58, l32_59, l32_63, l32_64, l32_85, l32_90, l32_97, l32_99, l32_100, l32_110, l32_112, l32_122, l32_124, l32_125, l32_255, l32_680, l32_699, l32_700, l32_999, l32_2500, l32_99999, l32_100000, l32_1000000, if_true, if_false, ite_true, ite_false, ce_nm, Option.bind, if_pos, if_neg]; exact h10) (Ev.some ⟨_, rfl, ne'⟩)
        · refine Ev.neg (by simp (disch := omega) only [up_s, up_k, up_j, mm_neg, mm_def, ni_lt, ni_le, ni_eq, ni_mm, mm_ni, ni_lt_mm, ni_le_mm, mm_lt_ni, mm_le_ni, mm_lt_mm, mm_le_mm, ni_cl, ni_in, nI_add, ni_mul, ni_div, ni_rem, ni_rem2, fr_sub, fr_mm, fr_ge0, fr_lt0, fr_inj, l32_0, l32_1, l32_2, l32_3, l32_4, l32_5, l32_6, l32_7, l32_8, l32_9, l32_10, l32_11, l32_12, l32_13, l32_14, l32_15, l32_16, l32_20, l32_24, l32_25, l32_26, l32_31, l32_32, l32_34, l32_35, l32_39, l32_40, l32_44, l32_45, l32_46, l32_47, l32_48, l32_49, l32_57, l32_58, l32_59, l32_63, l32_64, l32_85, l32_90, l32_97, l32_99, l32_100, l32_110, l32_112, l32_122, l32_124, l32_125, l32_255, l32_680, l32_699, l32_700, l32_999, l32_2500, l32_99999, l32_100000, l32_1000000, if_true, if_false, ite_true, ite_false, ce_nm, Option.bind, if_pos, if_neg]; exact h10) (Ev.neg (by simp (disch := omega) only [up_s, up_k, up_j, mm_neg, mm_def, ni_lt, ni_le, ni_eq, ni_mm, mm_ni, ni_lt_mm, ni_le_mm, mm_lt_ni, mm_le_ni, mm_lt_mm, mm_le_mm, ni_cl, ni_in, nI_add, ni_mul, ni_div, ni_rem, ni_rem2, fr_sub, fr_mm, fr_ge0, fr_lt0, fr_inj, l32_0, l32_1, l32_2, l32_3, l32_4, l32_5, l32_6, l32_7, l32_8, l32_9, l32_10, l32_11, l32_12, l32_13, l32_14, l32_15, l32_16, l32_20, l32_24, l32_25, l32_26, l32_31, l32_32, l32_34, l32_35, l32_39, l32_40, l32_44, l32_45, l32_46, l32_47, l32_48, l32_49, l32_57, l32_58, l32_59, l32_63, l32_64, l32_85, l32_90, l32_97, l32_99, l32_100, l32_110, l32_112, l32_122, l32_124, l32_125, l32_255, l32_680, l32_699, l32_700, l32_999, l32_2500, l32_99999, l32_100000, l32_1000000, if_true, if_false, ite_true, ite_false, ce_nm, Option.bind, if_pos, if_neg]; exact id) (Ev.neg ne' ?_))
          rw [cp _ hu10]
          refine ev_bs (Ev.some ⟨by omega, by omega, ?_⟩)
          rw [show nI i + 1 = nI (i + 1) from nI_1 _]
          by_cases z : hp w - i = 1
          · rw [u2, if_pos z] at pe
            rw [pe, fr_0, if_neg (by omega)]
          · rw [u2, if_neg z] at pe
            rw [pe, fr_s, if_pos (by omega)]
            rfl
      · rw [if_neg lt]
        have nm : mm ≠ nI v := fun q => by rw [mm_ni (by omega)] at q; exact q
        by_cases h10 : 10 ≤ i
        · exact Ev.pos (by simp (disch := omega) only [up_s, up_k, up_j, mm_neg, mm_def, ni_lt, ni_le, ni_eq, ni_mm, mm_ni, ni_lt_mm, ni_le_mm, mm_lt_ni, mm_le_ni, mm_lt_mm, mm_le_mm, ni_cl, ni_in, nI_add, ni_mul, ni_div, ni_rem, ni_rem2, fr_sub, fr_mm, fr_ge0, fr_lt0, fr_inj, l32_0, l32_1, l32_2, l32_3, l32_4, l32_5, l32_6, l32_7, l32_8, l32_9, l32_10, l32_11, l32_12, l32_13, l32_14, l32_15, l32_16, l32_20, l32_24, l32_25, l32_26, l32_31, l32_32, l32_34, l32_35, l32_39, l32_40, l32_44, l32_45, l32_46, l32_47, l32_48, l32_49, l32_57, l32_58, l32_59, l32_63, l32_64, l32_85, l32_90, l32_97, l32_99, l32_100, l32_110, l32_112, l32_122, l32_124, l32_125, l32_255, l32_680, l32_699, l32_700, l32_999, l32_2500, l32_99999, l32_100000, l32_1000000, if_true, if_false, ite_true, ite_false, ce_nm, Option.bind, if_pos, if_neg]; exact h10) (Ev.some ⟨_, rfl, nm⟩)
        · exact Ev.neg (by simp (disch := omega) only [up_s, up_k, up_j, mm_neg, mm_def, ni_lt, ni_le, ni_eq, ni_mm, mm_ni, ni_lt_mm, ni_le_mm, mm_lt_ni, mm_le_ni, mm_lt_mm, mm_le_mm, ni_cl, ni_in, nI_add, ni_mul, ni_div, ni_rem, ni_rem2, fr_sub, fr_mm, fr_ge0, fr_lt0, fr_inj, l32_0, l32_1, l32_2, l32_3, l32_4, l32_5, l32_6, l32_7, l32_8, l32_9, l32_10, l32_11, l32_12, l32_13, l32_14, l32_15, l32_16, l32_20, l32_24, l32_25, l32_26, l32_31, l32_32, l32_34, l32_35, l32_39, l32_40, l32_44, l32_45, l32_46, l32_47, l32_48, l32_49, l32_57, l32_58, l32_59, l32_63, l32_64, l32_85, l32_90, l32_97, l32_99, l32_100, l32_110, l32_112, l32_122, l32_124, l32_125, l32_255, l32_680, l32_699, l32_700, l32_999, l32_2500, l32_99999, l32_100000, l32_1000000, if_true, if_false, ite_true, ite_false, ce_nm, Option.bind, if_pos, if_neg]; exact h10) (Ev.pos rfl (Ev.some ⟨_, rfl, nm⟩))
  · refine Ev.bind (P := fun o => ∃ X, o = (X, h) ∧ X ≠ nI v) ?_ (fun o ho => by
      obtain ⟨X, e, n⟩ := ho
      rw [e]
      refine Ev.neg n (Ev.some ?_)
      rw [bo_f (fun q => hwr q.1)]
      rfl)
    have nv : ∀ u, Cn (og m) w u → nI u ≠ nI v := fun u hu q => by
      have := cn_lt on.1 hu hw
      rw [ni_eq (by omega) (by omega)] at q
      rw [q] at hu
      exact hwr (hc.trans (hu.symm g))
    have nm : mm ≠ nI v := fun q => by rw [mm_ni (by omega)] at q; exact q
    refine Ev.it (I := fun i st => ∃ x, st = (fr x, nI i, h) ∧ (x ≠ 0 → Cn (og m) w (x - 1))) _ 10 ?_ F 0 _ (by omega) (by omega) ⟨w + 1, by rw [fr_s]; rfl, fun _ => Cn.refl _ _⟩
    rintro i st hi ⟨x, rfl, hx⟩
    show Ev (f3_isBelow_b6 F 48 kn (nI v) (fr x) (nI i) h) _
    unfold f3_isBelow_b6
    by_cases z : x = 0
    · rw [z, fr_0]
      by_cases h10 : 10 ≤ i
      · exact Ev.pos (by simp (disch := omega) only [up_s, up_k, up_j, mm_neg, mm_def, ni_lt, ni_le, ni_eq, ni_mm, mm_ni, ni_lt_mm, ni_le_mm, mm_lt_ni, mm_le_ni, mm_lt_mm, mm_le_mm, ni_cl, ni_in, nI_add, ni_mul, ni_div, ni_rem, ni_rem2, fr_sub, fr_mm, fr_ge0, fr_lt0, fr_inj, l32_0, l32_1, l32_2, l32_3, l32_4, l32_5, l32_6, l32_7, l32_8, l32_9, l32_10, l32_11, l32_12, l32_13, l32_14, l32_15, l32_16, l32_20, l32_24, l32_25, l32_26, l32_31, l32_32, l32_34, l32_35, l32_39, l32_40, l32_44, l32_45, l32_46, l32_47, l32_48, l32_49, l32_57, l32_58, l32_59, l32_63, l32_64, l32_85, l32_90, l32_97, l32_99, l32_100, l32_110, l32_112, l32_122, l32_124, l32_125, l32_255, l32_680, l32_699, l32_700, l32_999, l32_2500, l32_99999, l32_100000, l32_1000000, if_true, if_false, ite_true, ite_false, ce_nm, Option.bind, if_pos, if_neg]; exact h10) (Ev.some ⟨_, rfl, nm⟩)
      · exact Ev.neg (by simp (disch := omega) only [up_s, up_k, up_j, mm_neg, mm_def, ni_lt, ni_le, ni_eq, ni_mm, mm_ni, ni_lt_mm, ni_le_mm, mm_lt_ni, mm_le_ni, mm_lt_mm, mm_le_mm, ni_cl, ni_in, nI_add, ni_mul, ni_div, ni_rem, ni_rem2, fr_sub, fr_mm, fr_ge0, fr_lt0, fr_inj, l32_0, l32_1, l32_2, l32_3, l32_4, l32_5, l32_6, l32_7, l32_8, l32_9, l32_10, l32_11, l32_12, l32_13, l32_14, l32_15, l32_16, l32_20, l32_24, l32_25, l32_26, l32_31, l32_32, l32_34, l32_35, l32_39, l32_40, l32_44, l32_45, l32_46, l32_47, l32_48, l32_49, l32_57, l32_58, l32_59, l32_63, l32_64, l32_85, l32_90, l32_97, l32_99, l32_100, l32_110, l32_112, l32_122, l32_124, l32_125, l32_255, l32_680, l32_699, l32_700, l32_999, l32_2500, l32_99999, l32_100000, l32_1000000, if_true, if_false, ite_true, ite_false, ce_nm, Option.bind, if_pos, if_neg]; exact h10) (Ev.pos rfl (Ev.some ⟨_, rfl, nm⟩))
    · have q := hx z
      have hu := cn_lt on.1 q hw
      rw [fr_p (by omega)]
      by_cases h10 : 10 ≤ i
      · exact Ev.pos (by simp (disch := omega) only [up_s, up_k, up_j, mm_neg, mm_def, ni_lt, ni_le, ni_eq, ni_mm, mm_ni, ni_lt_mm, ni_le_mm, mm_lt_ni, mm_le_ni, mm_lt_mm, mm_le_mm, ni_cl, ni_in, nI_add, ni_mul, ni_div, ni_rem, ni_rem2, fr_sub, fr_mm, fr_ge0, fr_lt0, fr_inj, l32_0, l32_1, l32_2, l32_3, l32_4, l32_5, l32_6, l32_7, l32_8, l32_9, l32_10, l32_11, l32_12, l32_13, l32_14, l32_15, l32_16, l32_20, l32_24, l32_25, l32_26, l32_31, l32_32, l32_34, l32_35, l32_39, l32_40, l32_44, l32_45, l32_46, l32_47, l32_48, l32_49, l32_57, l32_58, l32_59, l32_63, l32_64, l32_85, l32_90, l32_97, l32_99, l32_100, l32_110, l32_112, l32_122, l32_124, l32_125, l32_255, l32_680, l32_699, l32_700, l32_999, l32_2500, l32_99999, l32_100000, l32_1000000, if_true, if_false, ite_true, ite_false, ce_nm, Option.bind, if_pos, if_neg]; exact h10) (Ev.some ⟨_, rfl, nv _ q⟩)
      · refine Ev.neg (by simp (disch := omega) only [up_s, up_k, up_j, mm_neg, mm_def, ni_lt, ni_le, ni_eq, ni_mm, mm_ni, ni_lt_mm, ni_le_mm, mm_lt_ni, mm_le_ni, mm_lt_mm, mm_le_mm, ni_cl, ni_in, nI_add, ni_mul, ni_div, ni_rem, ni_rem2, fr_sub, fr_mm, fr_ge0, fr_lt0, fr_inj, l32_0, l32_1, l32_2, l32_3, l32_4, l32_5, l32_6, l32_7, l32_8, l32_9, l32_10, l32_11, l32_12, l32_13, l32_14, l32_15, l32_16, l32_20, l32_24, l32_25, l32_26, l32_31, l32_32, l32_34, l32_35, l32_39, l32_40, l32_44, l32_45, l32_46, l32_47, l32_48, l32_49, l32_57, l32_58, l32_59, l32_63, l32_64, l32_85, l32_90, l32_97, l32_99, l32_100, l32_110, l32_112, l32_122, l32_124, l32_125, l32_255, l32_680, l32_699, l32_700, l32_999, l32_2500, l32_99999, l32_100000, l32_1000000, if_true, if_false, ite_true, ite_false, ce_nm, Option.bind, if_pos, if_neg]; exact h10) (Ev.neg (by simp (disch := omega) only [up_s, up_k, up_j, mm_neg, mm_def, ni_lt, ni_le, ni_eq, ni_mm, mm_ni, ni_lt_mm, ni_le_mm, mm_lt_ni, mm_le_ni, mm_lt_mm, mm_le_mm, ni_cl, ni_in, nI_add, ni_mul, ni_div, ni_rem, ni_rem2, fr_sub, fr_mm, fr_ge0, fr_lt0, fr_inj, l32_0, l32_1, l32_2, l32_3, l32_4, l32_5, l32_6, l32_7, l32_8, l32_9, l32_10, l32_11, l32_12, l32_13, l32_14, l32_15, l32_16, l32_20, l32_24, l32_25, l32_26, l32_31, l32_32, l32_34, l32_35, l32_39, l32_40, l32_44, l32_45, l32_46, l32_47, l32_48, l32_49, l32_57, l32_58, l32_59, l32_63, l32_64, l32_85, l32_90, l32_97, l32_99, l32_100, l32_110, l32_112, l32_122, l32_124, l32_125, l32_255, l32_680, l32_699, l32_700, l32_999, l32_2500, l32_99999, l32_100000, l32_1000000, if_true, if_false, ite_true, ite_false, ce_nm, Option.bind, if_pos, if_neg]; exact id) (Ev.neg (nv _ q) ?_))
        rw [cp _ (by omega)]
        refine ev_bs (Ev.some ⟨by omega, par (og m) (Pf m (sM m)) (x - 1), ?_, fun y => ?_⟩)
        · rw [show nI i + 1 = nI (i + 1) from nI_1 _]
        · exact q.trans (par_cn T.2.1 (by omega) (x := par (og m) (Pf m (sM m)) (x - 1) - 1) (by omega)).1
theorem x_mbelow {m : Nat → Nat} {kn v r w F : Nat} {hp : Nat → Nat} {h : Hp} (c : Co h m kn) (mf : MF h m (sM m)) (tf : Tf m v r hp) (hw : w < m 2) (hF : 1000 ≤ F) : f12_isBelow F (nI w) (nI v) h = some (if bo (Cn (og m) r w ∧ bl (og m) (Pf m (sM m)) hp v w) = true then nI 1 else nI 0, h) := by
  have on := c.2.2.1
  obtain ⟨hv, hr, hc, hR, T, hfi, tr⟩ := tf
  have h2 := on.1.2.1
  have g := on.1.2.2.2.1
  have cp : ∀ u, u < m 2 → f12_parentOf F (nI u) h = some (fr (par (og m) (Pf m (sM m)) u), h) := fun u hu => x_mparent on.1 c.2.2.2.1 T.2.1 (fun v hv => (mf.el hv).2.2.2) hu
  refine Ev.eq ?_
  unfold f12_isBelow
  by_cases hwr : Cn (og m) r w
  · have hb := T.2.2.2.2.2.1 w (by omega) hwr
    have up := T.up hwr
    by_cases bv : bl (og m) (Pf m (sM m)) hp v w
    · have b1 := bv.1
      have b2 := bv.2
      have hv1 := (T.2.2.2.2.2.1 v (by omega) hc).1
      refine Ev.bind (P := fun o => o = (nI v, h)) ?_ (fun o ho => by
        rw [ho]
        refine Ev.pos rfl (Ev.some ?_)
        rw [bo_p ⟨hwr, bv⟩]
        rfl)
      refine Ev.it (I := fun i st => i ≤ hp w - hp v ∧ st = (nI (upn (og m) (Pf m (sM m)) i w), h)) _ 10 ?_ F 0 _ (by omega) (by omega) ⟨by omega, rfl⟩
      rintro i st hi ⟨hi2, rfl⟩
      show Ev (f12_isBelow_b2 F (nI v) (nI (upn (og m) (Pf m (sM m)) i w)) h) _
      obtain ⟨u1, u2⟩ := up i (by omega)
      have hu10 := T.lt u1
      have pe := T.parn u1
      unfold f12_isBelow_b2
      refine Ev.neg (by simp (disch := omega) only [up_s, up_k, up_j, mm_neg, mm_def, ni_lt, ni_le, ni_eq, ni_mm, mm_ni, ni_lt_mm, ni_le_mm, mm_lt_ni, mm_le_ni, mm_lt_mm, mm_le_mm, ni_cl, ni_in, nI_add, ni_mul, ni_div, ni_rem, ni_rem2, fr_sub, fr_mm, fr_ge0, fr_lt0, fr_inj, l32_0, l32_1, l32_2, l32_3, l32_4, l32_5, l32_6, l32_7, l32_8, l32_9, l32_10, l32_11, l32_12, l32_13, l32_14, l32_15, l32_16, l32_20, l32_24, l32_25, l32_26, l32_31, l32_32, l32_34, l32_35, l32_39, l32_40, l32_44, l32_45, l32_46, l32_47, l32_48, l32_49, l32_57, l32_58, l32_59, l32_63, l32_64, l32_85, l32_90, l32_97, l32_99, l32_100, l32_110, l32_112, l32_122, l32_124, l32_125, l32_255, l32_680, l32_699, l32_700, l32_999, l32_2500, l32_99999, l32_100000, l32_1000000, if_true, if_false, ite_true, ite_false, ce_nm, Option.bind, if_pos, if_neg]; exact id) ?_
      by_cases z : i = hp w - hp v
      · rw [z, b2]
        exact Ev.pos rfl (Ev.some rfl)
      · have ne : upn (og m) (Pf m (sM m)) i w ≠ v := fun q => by rw [q] at u2; omega
        refine Ev.neg (by rw [ni_eq (by omega) (by omega)]; exact ne) ?_
        rw [u2, if_neg (by omega)] at pe
        rw [cp _ (cn_lt on.1 u1 hr), pe, fr_s]
        exact ev_bs (Ev.some ⟨by omega, by omega, rfl⟩)
    · refine Ev.bind (P := fun o => o = (mm, h)) ?_ (fun o ho => by
        rw [ho]
        refine Ev.neg (by simp (disch := omega) only [up_s, up_k, up_j, mm_neg, mm_def, ni_lt, ni_le, ni_eq, ni_mm, mm_ni, ni_lt_mm, ni_le_mm, mm_lt_ni, mm_le_ni, mm_lt_mm, mm_le_mm, ni_cl, ni_in, nI_add, ni_mul, ni_div, ni_rem, ni_rem2, fr_sub, fr_mm, fr_ge0, fr_lt0, fr_inj, l32_0, l32_1, l32_2, l32_3, l32_4, l32_5, l32_6, l32_7, l32_8, l32_9, l32_10, l32_11, l32_12, l32_13, l32_14, l32_15, l32_16, l32_20, l32_24, l32_25, l32_26, l32_31, l32_32, l32_34, l32_35, l32_39, l32_40, l32_44, l32_45, l32_46, l32_47, l32_48, l32_49, l32_57, l32_58, l32_59, l32_63, l32_64, l32_85, l32_90, l32_97, l32_99, l32_100, l32_110, l32_112, l32_122, l32_124, l32_125, l32_255, l32_680, l32_699, l32_700, l32_999, l32_2500, l32_99999, l32_100000, l32_1000000, if_true, if_false, ite_true, ite_false, ce_nm, Option.bind, if_pos, if_neg]; exact id) (Ev.some ?_)
        rw [bo_f (fun q => bv q.2)]
        rfl)
      refine Ev.it (I := fun i st => i ≤ hp w ∧ st = (if i < hp w then nI (upn (og m) (Pf m (sM m)) i w) else mm, h)) _ 10 ?_ F 0 _ (by omega) (by omega) ⟨by omega, by rw [if_pos (by omega)]; rfl⟩
      rintro i st hi ⟨hi2, rfl⟩
      show Ev (f12_isBelow_b2 F (nI v) (if i < hp w then nI (upn (og m) (Pf m (sM m)) i w) else mm) h) _
      unfold f12_isBelow_b2
      by_cases lt : i < hp w
      · rw [if_pos lt]
        obtain ⟨u1, u2⟩ := up i lt
        have hu10 := T.lt u1
        have pe := T.parn u1
        have ne : upn (og m) (Pf m (sM m)) i w ≠ v := fun q => bv ⟨by rw [q] at u2; omega, by rw [q] at u2; rw [show hp w - hp v = i by omega]; exact q⟩
        have ne' : nI (upn (og m) (Pf m (sM m)) i w) ≠ nI v := fun q => by rw [ni_eq (by omega) (by omega)] at q; exact ne q
        refine Ev.neg (by simp (disch := omega) only [up_s, up_k, up_j, mm_neg, mm_def, ni_lt, ni_le, ni_eq, ni_mm, mm_ni, ni_lt_mm, ni_le_mm, mm_lt_ni, mm_le_ni, mm_lt_mm, mm_le_mm, ni_cl, ni_in, nI_add, ni_mul, ni_div, ni_rem, ni_rem2, fr_sub, fr_mm, fr_ge0, fr_lt0, fr_inj, l32_0, l32_1, l32_2, l32_3, l32_4, l32_5, l32_6, l32_7, l32_8, l32_9, l32_10, l32_11, l32_12, l32_13, l32_14, l32_15, l32_16, l32_20, l32_24, l32_25, l32_26, l32_31, l32_32, l32_34, l32_35, l32_39, l32_40, l32_44, l32_45, l32_46, l32_47, l32_48, l32_49, l32_57, l32_58, l32_59, l32_63, l32_64, l32_85, l32_90, l32_97, l32_99, l32_100, l32_110, l32_112, l32_122, l32_124, l32_125, l32_255, l32_680, l32_699, l32_700, l32_999, l32_2500, l32_99999, l32_100000, l32_1000000, if_true, if_false, ite_true, ite_false, ce_nm, Option.bind, if_pos, if_neg]; exact id) (Ev.neg ne' ?_)
        rw [cp _ (cn_lt on.1 u1 hr)]
        refine ev_bs (Ev.some ⟨by omega, by omega, ?_⟩)
        by_cases z : hp w - i = 1
        · rw [u2, if_pos z] at pe
          rw [pe, fr_0, if_neg (by omega)]
        · rw [u2, if_neg z] at pe
          rw [pe, fr_s, if_pos (by omega)]
          rfl
      · rw [if_neg lt]
        exact Ev.pos rfl (Ev.some rfl)
  · refine Ev.bind (P := fun o => o = (mm, h)) ?_ (fun o ho => by
      rw [ho]
      refine Ev.neg (by simp (disch := omega) only [up_s, up_k, up_j, mm_neg, mm_def, ni_lt, ni_le, ni_eq, ni_mm, mm_ni, ni_lt_mm, ni_le_mm, mm_lt_ni, mm_le_ni, mm_lt_mm, mm_le_mm, ni_cl, ni_in, nI_add, ni_mul, ni_div, ni_rem, ni_rem2, fr_sub, fr_mm, fr_ge0, fr_lt0, fr_inj, l32_0, l32_1, l32_2, l32_3, l32_4, l32_5, l32_6, l32_7, l32_8, l32_9, l32_10, l32_11, l32_12, l32_13, l32_14, l32_15, l32_16, l32_20, l32_24, l32_25, l32_26, l32_31, l32_32, l32_34, l32_35, l32_39, l32_40, l32_44, l32_45, l32_46, l32_47, l32_48, l32_49, l32_57, l32_58, l32_59, l32_63, l32_64, l32_85, l32_90, l32_97, l32_99, l32_100, l32_110, l32_112, l32_122, l32_124, l32_125, l32_255, l32_680, l32_699, l32_700, l32_999, l32_2500, l32_99999, l32_100000, l32_1000000, if_true, if_false, ite_true, ite_false, ce_nm, Option.bind, if_pos, if_neg]; exact id) (Ev.some ?_)
      rw [bo_f (fun q => hwr q.1)]
      rfl)
    have nv : ∀ u, Cn (og m) w u → nI u ≠ nI v := fun u hu q => by
      have := cn_lt on.1 hu hw
      rw [ni_eq (by omega) (by omega)] at q
      rw [q] at hu
      exact hwr (hc.trans (hu.symm g))
    have bt1 : ∀ u, u < 10 → sM m 1 u ≤ 700 := fun u hu => on.fs.2.1.b1 hu
    refine Ev.it (I := fun i st => ∃ x, st = (fr x, h) ∧ (x ≠ 0 → Cn (og m) w (x - 1) ∧ (Pf m (sM m) (x - 1) ≠ 0 → i ≤ sM m 1 (x - 1))) ∧ (x ≠ 0 → i ≤ 701)) _ 800 ?_ F 0 _ (by omega) (by omega) ⟨w + 1, by rw [fr_s], fun _ => ⟨Cn.refl _ _, fun _ => Nat.zero_le _⟩, fun _ => by omega⟩
    rintro i st hi ⟨x, rfl, hx, hi7⟩
    show Ev (f12_isBelow_b2 F (nI v) (fr x) h) _
    unfold f12_isBelow_b2
    by_cases z : x = 0
    · rw [z, fr_0]
      exact Ev.pos rfl (Ev.some rfl)
    · obtain ⟨q, q2⟩ := hx z
      have hu := cn_lt on.1 q hw
      rw [fr_p (by omega)]
      refine Ev.neg (by simp (disch := omega) only [up_s, up_k, up_j, mm_neg, mm_def, ni_lt, ni_le, ni_eq, ni_mm, mm_ni, ni_lt_mm, ni_le_mm, mm_lt_ni, mm_le_ni, mm_lt_mm, mm_le_mm, ni_cl, ni_in, nI_add, ni_mul, ni_div, ni_rem, ni_rem2, fr_sub, fr_mm, fr_ge0, fr_lt0, fr_inj, l32_0, l32_1, l32_2, l32_3, l32_4, l32_5, l32_6, l32_7, l32_8, l32_9, l32_10, l32_11, l32_12, l32_13, l32_14, l32_15, l32_16, l32_20, l32_24, l32_25, l32_26, l32_31, l32_32, l32_34, l32_35, l32_39, l32_40, l32_44, l32_45, l32_46, l32_47, l32_48, l32_49, l32_57, l32_58, l32_59, l32_63, l32_64, l32_85, l32_90, l32_97, l32_99, l32_100, l32_110, l32_112, l32_122, l32_124, l32_125, l32_255, l32_680, l32_699, l32_700, l32_999, l32_2500, l32_99999, l32_100000, l32_1000000, if_true, if_false, ite_true, ite_false, ce_nm, Option.bind, if_pos, if_neg]; exact id) (Ev.neg (nv _ q) ?_)
      rw [cp _ hu]
      refine ev_bs (Ev.some ⟨by have := hi7 z; omega, par (og m) (Pf m (sM m)) (x - 1), rfl, fun y => ?_, fun y => ?_⟩)
      · obtain ⟨a1, a2, a3⟩ := par_cn T.2.1 (by omega : x - 1 < 10) (x := par (og m) (Pf m (sM m)) (x - 1) - 1) (by omega)
        refine ⟨q.trans a1, fun w2 => ?_⟩
        have := Pf_rise on.fs (u := x - 1) (by omega) a2 (by rw [a3]; exact w2)
        rw [a3] at this
        have := q2 a2
        omega
      · obtain ⟨a1, a2, a3⟩ := par_cn T.2.1 (by omega : x - 1 < 10) (x := par (og m) (Pf m (sM m)) (x - 1) - 1) (by omega)
        have := q2 a2
        have := bt1 (x - 1) (by omega)
        omega
theorem q_below {F : Nat} (hF : 1000 ≤ F) (x : Int32) : Gd (f11_below F x) (f12_below F x) := by
  refine gd_ref hF (A := fun h => Option.bind (ce_it (fun (st : Int32 × Int32 × Hp) => f11_below_b17 F x st.1 st.2.1 st.2.2) F ((0 : Int32), (0 : Int32), h)) (fun o17 => some (o17.1, o17.2))) (B := fun h => Option.bind (ce_it (fun (st : Int32 × Int32 × Hp) => f12_below_b17 F x st.1 st.2.1 st.2.2) F ((0 : Int32), (0 : Int32), h)) (fun o17 => some (o17.1, o17.2))) (fun h => rfl) (fun h => rfl) ?_
  rintro m kn v r hp on rfl tf
  have h2 := on.1.2.1
  refine ⟨nI (ct (fun w => bo (Cn (og m) r w ∧ bl (og m) (Pf m (sM m)) hp v w)) (m 2)), fun h c l => ?_, fun h c mf lb => ?_⟩
  · have b := net_le c.2.1
    refine Ev.bind (P := fun o => o = (nI (ct (fun w => bo (Cn (og m) r w ∧ bl (og m) (Pf m (sM m)) hp v w)) (m 2)), h)) ?_ (fun o ho => by rw [ho]; exact Ev.some ⟨rfl, Sc.refl _⟩)
    refine Ev.it (I := fun i st => st = (nI (ct (fun w => bo (Cn (og m) r w ∧ bl (og m) (Pf m (sM m)) hp v w)) i), nI i, h)) _ (m 2) ?_ F 0 _ (by omega) (by omega) rfl
    rintro i st hi rfl
    show Ev (f11_below_b17 F (nI v) (nI (ct (fun w => bo (Cn (og m) r w ∧ bl (og m) (Pf m (sM m)) hp v w)) i)) (nI i) h) _
    have nxt : nI i + 1 = nI (i + 1) := nI_1 _
    have n3 : h kn 3 = nI (m 2) := c.2.2.2.2.1.1.2.1
    have cs := ct_succ (fun w => bo (Cn (og m) r w ∧ bl (og m) (Pf m (sM m)) hp v w)) i
    unfold f11_below_b17
    refine Ev.nm ?_
    rw [c.1, ni_cl (by omega)]
    refine Ev.grd c.2.1 ?_
    by_cases hin : m 2 ≤ i
    · refine Ev.pos (by rw [n3]; simp (disch := omega) only [up_s, up_k, up_j, mm_neg, mm_def, ni_lt, ni_le, ni_eq, ni_mm, mm_ni, ni_lt_mm, ni_le_mm, mm_lt_ni, mm_le_ni, mm_lt_mm, mm_le_mm, ni_cl, ni_in, nI_add, ni_mul, ni_div, ni_rem, ni_rem2, fr_sub, fr_mm, fr_ge0, fr_lt0, fr_inj, l32_0, l32_1, l32_2, l32_3, l32_4, l32_5, l32_6, l32_7, l32_8, l32_9, l32_10, l32_11, l32_12, l32_13, l32_14, l32_15, l32_16, l32_20, l32_24, l32_25, l32_26, l32_31, l32_32, l32_34, l32_35, l32_39, l32_40, l32_44, l32_45, l32_46, l32_47, l32_48, l32_49, l32_57, l32_58, l32_59, l32_63, l32_64, l32_85, l32_90, l32_97, l32_99, l32_100, l32_110, l32_112, l32_122, l32_124, l32_125, l32_255, l32_680, l32_699, l32_700, l32_999, l32_2500, l32_99999, l32_100000, l32_1000000, if_true, if_false, ite_true, ite_false, ce_nm, Option.bind, if_pos, if_neg]; exact hin) (Ev.some ?_)
      have : i = m 2 := by omega
      rw [this]
    · refine Ev.neg (by rw [n3]; simp (disch := omega) only [up_s, up_k, up_j, mm_neg, mm_def, ni_lt, ni_le, ni_eq, ni_mm, mm_ni, ni_lt_mm, ni_le_mm, mm_lt_ni, mm_le_ni, mm_lt_mm, mm_le_mm, ni_cl, ni_in, nI_add, ni_mul, ni_div, ni_rem, ni_rem2, fr_sub, fr_mm, fr_ge0, fr_lt0, fr_inj, l32_0, l32_1, l32_2, l32_3, l32_4, l32_5, l32_6, l32_7, l32_8, l32_9, l32_10, l32_11, l32_12, l32_13, l32_14, l32_15, l32_16, l32_20, l32_24, l32_25, l32_26, l32_31, l32_32, l32_34, l32_35, l32_39, l32_40, l32_44, l32_45, l32_46, l32_47, l32_48, l32_49, l32_57, l32_58, l32_59, l32_63, l32_64, l32_85, l32_90, l32_97, l32_99, l32_100, l32_110, l32_112, l32_122, l32_124, l32_125, l32_255, l32_680, l32_699, l32_700, l32_999, l32_2500, l32_99999, l32_100000, l32_1000000, if_true, if_false, ite_true, ite_false, ce_nm, Option.bind, if_pos, if_neg]; exact hin) (Ev.nm (Ev.grd c.2.1 ?_))
      rw [x_cbelow c l tf (by omega) hF]
      refine ev_bs ?_
      dsimp only
      by_cases z : Cn (og m) r i ∧ bl (og m) (Pf m (sM m)) hp v i
      · rw [bo_p z, if_pos rfl] at cs
        refine Ev.neg (by rw [bo_p z]; decide) (Ev.some ⟨by omega, ?_⟩)
        rw [cs, nxt]
        congr 1
        exact nI_1 _
      · rw [bo_f z, if_neg (by simp)] at cs
        refine Ev.pos (by rw [bo_f z]; rfl) (Ev.some ⟨by omega, ?_⟩)
        rw [cs, nxt]
        rfl
  · refine Ev.bind (P := fun o => o = (nI (ct (fun w => bo (Cn (og m) r w ∧ bl (og m) (Pf m (sM m)) hp v w)) (m 2)), h)) ?_ (fun o ho => by rw [ho]; exact Ev.some ⟨rfl, Sc.refl _⟩)
    refine Ev.it (I := fun i st => st = (nI (ct (fun w => bo (Cn (og m) r w ∧ bl (og m) (Pf m (sM m)) hp v w)) i), nI i, h)) _ (m 2) ?_ F 0 _ (by omega) (by omega) rfl
    rintro i st hi rfl
    show Ev (f12_below_b17 F (nI v) (nI (ct (fun w => bo (Cn (og m) r w ∧ bl (og m) (Pf m (sM m)) hp v w)) i)) (nI i) h) _
    have nxt : nI i + 1 = nI (i + 1) := nI_1 _
    have c2 : h 69 ((2 : Int32)).toNatClampNeg = nI (m 2) := c.2.2.2.1 2 (by omega)
    have cs := ct_succ (fun w => bo (Cn (og m) r w ∧ bl (og m) (Pf m (sM m)) hp v w)) i
    unfold f12_below_b17
    by_cases hin : m 2 ≤ i
    · refine Ev.pos (by rw [c2]; simp (disch := omega) only [up_s, up_k, up_j, mm_neg, mm_def, ni_lt, ni_le, ni_eq, ni_mm, mm_ni, ni_lt_mm, ni_le_mm, mm_lt_ni, mm_le_ni, mm_lt_mm, mm_le_mm, ni_cl, ni_in, nI_add, ni_mul, ni_div, ni_rem, ni_rem2, fr_sub, fr_mm, fr_ge0, fr_lt0, fr_inj, l32_0, l32_1, l32_2, l32_3, l32_4, l32_5, l32_6, l32_7, l32_8, l32_9, l32_10, l32_11, l32_12, l32_13, l32_14, l32_15, l32_16, l32_20, l32_24, l32_25, l32_26, l32_31, l32_32, l32_34, l32_35, l32_39, l32_40, l32_44, l32_45, l32_46, l32_47, l32_48, l32_49, l32_57, l32_58, l32_59, l32_63, l32_64, l32_85, l32_90, l32_97, l32_99, l32_100, l32_110, l32_112, l32_122, l32_124, l32_125, l32_255, l32_680, l32_699, l32_700, l32_999, l32_2500, l32_99999, l32_100000, l32_1000000, if_true, if_false, ite_true, ite_false, ce_nm, Option.bind, if_pos, if_neg]; exact hin) (Ev.some ?_)
      have : i = m 2 := by omega
      rw [this]
    · refine Ev.neg (by rw [c2]; simp (disch := omega) only [up_s, up_k, up_j, mm_neg, mm_def, ni_lt, ni_le, ni_eq, ni_mm, mm_ni, ni_lt_mm, ni_le_mm, mm_lt_ni, mm_le_ni, mm_lt_mm, mm_le_mm, ni_cl, ni_in, nI_add, ni_mul, ni_div, ni_rem, ni_rem2, fr_sub, fr_mm, fr_ge0, fr_lt0, fr_inj, l32_0, l32_1, l32_2, l32_3, l32_4, l32_5, l32_6, l32_7, l32_8, l32_9, l32_10, l32_11, l32_12, l32_13, l32_14, l32_15, l32_16, l32_20, l32_24, l32_25, l32_26, l32_31, l32_32, l32_34, l32_35, l32_39, l32_40, l32_44, l32_45, l32_46, l32_47, l32_48, l32_49, l32_57, l32_58, l32_59, l32_63, l32_64, l32_85, l32_90, l32_97, l32_99, l32_100, l32_110, l32_112, l32_122, l32_124, l32_125, l32_255, l32_680, l32_699, l32_700, l32_999, l32_2500, l32_99999, l32_100000, l32_1000000, if_true, if_false, ite_true, ite_false, ce_nm, Option.bind, if_pos, if_neg]; exact hin) ?_
      rw [x_mbelow c mf tf (by omega) hF]
      refine ev_bs ?_
      dsimp only
      by_cases z : Cn (og m) r i ∧ bl (og m) (Pf m (sM m)) hp v i
      · rw [bo_p z, if_pos rfl] at cs
        refine Ev.neg (by rw [bo_p z]; decide) (Ev.some ⟨by omega, ?_⟩)
        rw [cs, nxt]
        congr 1
        exact nI_1 _
      · rw [bo_f z, if_neg (by simp)] at cs
        refine Ev.pos (by rw [bo_f z]; rfl) (Ev.some ⟨by omega, ?_⟩)
        rw [cs, nxt]
        congr 1
        exact nI_add _ 0
