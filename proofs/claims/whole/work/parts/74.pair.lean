theorem Ev.eq {α : Type} {x : Option α} {y : α} (h : Ev x (fun r => r = y)) : x = Option.some y := by
  obtain ⟨r, a, b⟩ := h
  rw [a, b]
-- contend: one pair of the class
theorem x_contend {m wt : Nat → Nat} {s : Es} {k kn e t i F : Nat} {h : Hp} (hk : ce_isEl k) (hkn : ce_isNet kn) (ok : OkG m) (ob : OkB m) (cn : CNw h kn m) (cc : CC h kn m) (E : EM (og m) m wt t i s) (ht : t < 10000) (he : e < 40) (h0 : og m e ≠ 0) (hl : e < og m e - 1) (s1 : s 2 (e / 4) = e + 1) (s2 : s 2 ((og m e - 1) / 4) = og m e) (c6 : ∀ e, e < 40 → h (k + 6) e = ti 1000000 (s 0 e)) (k3v : h (k + 3) (e / 4) = nI 0) (k3w : h (k + 3) ((og m e - 1) / 4) = nI 0) (hF : 1000 ≤ F) :
    Ev (f3_contend F k kn (nI e) h) (fun h' => Fr (k + 2) (k + 4) h h' ∧ ∀ u, u < 10 → h' (k + 2) u = (if u = wno (og m) m s e then nI (CWe (og m) m s e).1 else h (k + 2) u) ∧ h' (k + 3) u = (if u = e / 4 ∨ u = (og m e - 1) / 4 then nI (CWe (og m) m s e).2.1 else h (k + 3) u) ∧ h' (k + 4) u = (if u = wno (og m) m s e then mm else h (k + 4) u)) := by
  have h2 := ok.2.1
  have g := ok.2.2.2.1
  have bk := el_ge hk
  have bn := net_le hkn
  obtain ⟨g1, g2, g3⟩ := g e he h0
  have hev := (ok.2.2.2.2 e he h0).1
  have hew := (ok.2.2.2.2 (og m e - 1) (by omega) (by rw [g2]; omega)).1
  have n5 : h (kn + 5) e = nI (og m e - 1) := by rw [cn.2.2.2.1 e he, fr_p (by omega)]
  have n6 : h (kn + 6) e = nI (m (85 + e)) := cn.2.2.2.2 e he h0
  have hs1 : s 0 (og m e - 1) ≠ 0 := by
    have := (E.2.1 (e / 4) (by omega) (E.s2 (by omega) (by omega))).2.2.2.2.2.1
    rw [show s 2 (e / 4) - 1 = e by omega] at this
    have q := E.s2 (v := e / 4) (by omega) (by omega)
    omega
  have hs0 : s 0 e ≠ 0 := by
    have := (E.2.1 ((og m e - 1) / 4) (by omega) (E.s2 (by omega) (by omega))).2.2.2.2.2.1
    rw [s2, g2, show e + 1 - 1 = e from rfl] at this
    have q := E.s2 (v := (og m e - 1) / 4) (by omega) (by omega)
    omega
  have t0 := E.2.2.2.2.2.2.1 e he
  have t1 := E.2.2.2.2.2.2.1 (og m e - 1) (by omega)
  have q6 : h (k + 6) e = nI (s 0 e - 1) := by rw [c6 e he, ti_val, if_neg hs0]
  have q7 : h (k + 6) (og m e - 1) = nI (s 0 (og m e - 1) - 1) := by rw [c6 _ (by omega), ti_val, if_neg hs1]
  unfold f3_contend
  refine Ev.grd (by simp (disch := omega) only [up_s, up_k, up_j, mm_neg, mm_def, ni_lt, ni_le, ni_eq, ni_mm, mm_ni, ni_lt_mm, ni_le_mm, mm_lt_ni, mm_le_ni, mm_lt_mm, mm_le_mm, ni_cl, ni_in, nI_add, ni_mul, ni_div, ni_rem, ni_rem2, fr_sub, fr_mm, fr_ge0, fr_lt0, fr_inj, l32_0, l32_1, l32_2, l32_3, l32_4, l32_5, l32_6, l32_7, l32_8, l32_9, l32_10, l32_11, l32_12, l32_13, l32_14, l32_15, l32_16, l32_20, l32_24, l32_25, l32_26, l32_31, l32_32, l32_34, l32_35, l32_39, l32_40, l32_44, l32_45, l32_46, l32_47, l32_48, l32_49, l32_57, l32_58, l32_59, l32_63, l32_64, l32_85, l32_90, l32_97, l32_99, l32_100, l32_110, l32_112, l32_122, l32_124, l32_125, l32_255, l32_680, l32_699, l32_700, l32_999, l32_2500, l32_99999, l32_100000, l32_1000000, if_true, if_false, ite_true, ite_false, ce_nm, Option.bind, if_pos, if_neg]) ?_
  rw [x_nodeOf _ _ _ (by omega)]
  refine ev_bs ?_
  dsimp only
  rw [ni_cl (by omega), n5, x_nodeOf _ _ _ (by omega)]
  refine ev_bs ?_
  dsimp only
  refine Ev.grd (by simp (disch := omega) only [up_s, up_k, up_j, mm_neg, mm_def, ni_lt, ni_le, ni_eq, ni_mm, mm_ni, ni_lt_mm, ni_le_mm, mm_lt_ni, mm_le_ni, mm_lt_mm, mm_le_mm, ni_cl, ni_in, nI_add, ni_mul, ni_div, ni_rem, ni_rem2, fr_sub, fr_mm, fr_ge0, fr_lt0, fr_inj, l32_0, l32_1, l32_2, l32_3, l32_4, l32_5, l32_6, l32_7, l32_8, l32_9, l32_10, l32_11, l32_12, l32_13, l32_14, l32_15, l32_16, l32_20, l32_24, l32_25, l32_26, l32_31, l32_32, l32_34, l32_35, l32_39, l32_40, l32_44, l32_45, l32_46, l32_47, l32_48, l32_49, l32_57, l32_58, l32_59, l32_63, l32_64, l32_85, l32_90, l32_97, l32_99, l32_100, l32_110, l32_112, l32_122, l32_124, l32_125, l32_255, l32_680, l32_699, l32_700, l32_999, l32_2500, l32_99999, l32_100000, l32_1000000, if_true, if_false, ite_true, ite_false, ce_nm, Option.bind, if_pos, if_neg]) (Ev.grd (by simp (disch := omega) only [up_s, up_k, up_j, mm_neg, mm_def, ni_lt, ni_le, ni_eq, ni_mm, mm_ni, ni_lt_mm, ni_le_mm, mm_lt_ni, mm_le_ni, mm_lt_mm, mm_le_mm, ni_cl, ni_in, nI_add, ni_mul, ni_div, ni_rem, ni_rem2, fr_sub, fr_mm, fr_ge0, fr_lt0, fr_inj, l32_0, l32_1, l32_2, l32_3, l32_4, l32_5, l32_6, l32_7, l32_8, l32_9, l32_10, l32_11, l32_12, l32_13, l32_14, l32_15, l32_16, l32_20, l32_24, l32_25, l32_26, l32_31, l32_32, l32_34, l32_35, l32_39, l32_40, l32_44, l32_45, l32_46, l32_47, l32_48, l32_49, l32_57, l32_58, l32_59, l32_63, l32_64, l32_85, l32_90, l32_97, l32_99, l32_100, l32_110, l32_112, l32_122, l32_124, l32_125, l32_255, l32_680, l32_699, l32_700, l32_999, l32_2500, l32_99999, l32_100000, l32_1000000, if_true, if_false, ite_true, ite_false, ce_nm, Option.bind, if_pos, if_neg]) (Ev.grd (by simp (disch := omega) only [up_s, up_k, up_j, mm_neg, mm_def, ni_lt, ni_le, ni_eq, ni_mm, mm_ni, ni_lt_mm, ni_le_mm, mm_lt_ni, mm_le_ni, mm_lt_mm, mm_le_mm, ni_cl, ni_in, nI_add, ni_mul, ni_div, ni_rem, ni_rem2, fr_sub, fr_mm, fr_ge0, fr_lt0, fr_inj, l32_0, l32_1, l32_2, l32_3, l32_4, l32_5, l32_6, l32_7, l32_8, l32_9, l32_10, l32_11, l32_12, l32_13, l32_14, l32_15, l32_16, l32_20, l32_24, l32_25, l32_26, l32_31, l32_32, l32_34, l32_35, l32_39, l32_40, l32_44, l32_45, l32_46, l32_47, l32_48, l32_49, l32_57, l32_58, l32_59, l32_63, l32_64, l32_85, l32_90, l32_97, l32_99, l32_100, l32_110, l32_112, l32_122, l32_124, l32_125, l32_255, l32_680, l32_699, l32_700, l32_999, l32_2500, l32_99999, l32_100000, l32_1000000, if_true, if_false, ite_true, ite_false, ce_nm, Option.bind, if_pos, if_neg]) ?_))
  rw [ni_cl (by omega)]
  simp only [q6, q7, n6]
  rw [ni_max (by omega) (by omega), l32_2, ni_mul]
  refine Ev.bind (x_contend_loop hk hkn h2 ob cc hev hew (by omega) k3v k3w hF) (fun o ho => ?_)
  obtain ⟨o1, o2, o3, o4⟩ := ho
  have hCW : cw (bt m (e / 4)) (bt m ((og m e - 1) / 4)) (m (85 + e)) 10 0 (max (s 0 e - 1) (s 0 (og m e - 1) - 1)) = CWe (og m) m s e := rfl
  rw [hCW] at o1 o2 o4
  have hlt : e / 4 < (og m e - 1) / 4 := by omega
  have fin : ∀ q : Nat, q = wno (og m) m s e → q < 10 → Ev (some (hp_up (hp_up o.2.2 (k + 2) q o.1) (k + 4) q mm)) (fun h' => Fr (k + 2) (k + 4) h h' ∧ ∀ u, u < 10 → h' (k + 2) u = (if u = wno (og m) m s e then nI (CWe (og m) m s e).1 else h (k + 2) u) ∧ h' (k + 3) u = (if u = e / 4 ∨ u = (og m e - 1) / 4 then nI (CWe (og m) m s e).2.1 else h (k + 3) u) ∧ h' (k + 4) u = (if u = wno (og m) m s e then mm else h (k + 4) u)) := fun q hq hq10 => by
    rw [← hq]
    refine Ev.some ⟨((o3.wide (by omega) (by omega)).trans ((up_fr _ _ _ _).wide (by omega) (by omega))).trans ((up_fr _ _ _ _).wide (by omega) (by omega)), fun u hu => ⟨?_, ?_, ?_⟩⟩
    · rw [up_k _ _ _ _ _ _ (by omega)]
      by_cases z : u = q
      · subst z; rw [up_s, if_pos rfl, o1]
      · rw [up_j _ _ _ _ _ z, if_neg z, o3 _ (by omega)]
    · rw [up_k _ _ _ _ _ _ (by omega), up_k _ _ _ _ _ _ (by omega)]
      exact o4 u hu
    · by_cases z : u = q
      · subst z; rw [up_s, if_pos rfl]
      · rw [up_j _ _ _ _ _ z, if_neg z, up_k _ _ _ _ _ _ (by omega), o3 _ (by omega)]
  rcases o2 with ⟨z1, z2⟩ | z
  · have hw : (og m e - 1) / 4 = wno (og m) m s e := by unfold wno; rw [if_neg (by omega)]
    refine Ev.pos z1 ?_
    have hmx : (if nI (e / 4) < nI ((og m e - 1) / 4) then nI ((og m e - 1) / 4) else nI (e / 4)) = nI ((og m e - 1) / 4) := if_pos (by rw [ni_lt (by omega) (by omega)]; exact hlt)
    rw [hmx]
    refine Ev.grd (by simp (disch := omega) only [up_s, up_k, up_j, mm_neg, mm_def, ni_lt, ni_le, ni_eq, ni_mm, mm_ni, ni_lt_mm, ni_le_mm, mm_lt_ni, mm_le_ni, mm_lt_mm, mm_le_mm, ni_cl, ni_in, nI_add, ni_mul, ni_div, ni_rem, ni_rem2, fr_sub, fr_mm, fr_ge0, fr_lt0, fr_inj, l32_0, l32_1, l32_2, l32_3, l32_4, l32_5, l32_6, l32_7, l32_8, l32_9, l32_10, l32_11, l32_12, l32_13, l32_14, l32_15, l32_16, l32_20, l32_24, l32_25, l32_26, l32_31, l32_32, l32_34, l32_35, l32_39, l32_40, l32_44, l32_45, l32_46, l32_47, l32_48, l32_49, l32_57, l32_58, l32_59, l32_63, l32_64, l32_85, l32_90, l32_97, l32_99, l32_100, l32_110, l32_112, l32_122, l32_124, l32_125, l32_255, l32_680, l32_699, l32_700, l32_999, l32_2500, l32_99999, l32_100000, l32_1000000, if_true, if_false, ite_true, ite_false, ce_nm, Option.bind, if_pos, if_neg]) (Ev.nm (Ev.grd (by simp (disch := omega) only [up_s, up_k, up_j, mm_neg, mm_def, ni_lt, ni_le, ni_eq, ni_mm, mm_ni, ni_lt_mm, ni_le_mm, mm_lt_ni, mm_le_ni, mm_lt_mm, mm_le_mm, ni_cl, ni_in, nI_add, ni_mul, ni_div, ni_rem, ni_rem2, fr_sub, fr_mm, fr_ge0, fr_lt0, fr_inj, l32_0, l32_1, l32_2, l32_3, l32_4, l32_5, l32_6, l32_7, l32_8, l32_9, l32_10, l32_11, l32_12, l32_13, l32_14, l32_15, l32_16, l32_20, l32_24, l32_25, l32_26, l32_31, l32_32, l32_34, l32_35, l32_39, l32_40, l32_44, l32_45, l32_46, l32_47, l32_48, l32_49, l32_57, l32_58, l32_59, l32_63, l32_64, l32_85, l32_90, l32_97, l32_99, l32_100, l32_110, l32_112, l32_122, l32_124, l32_125, l32_255, l32_680, l32_699, l32_700, l32_999, l32_2500, l32_99999, l32_100000, l32_1000000, if_true, if_false, ite_true, ite_false, ce_nm, Option.bind, if_pos, if_neg]) (Ev.nm ?_)))
    rw [ni_cl (by omega)]
    exact fin _ hw (by omega)
  · have hw : (if (CWe (og m) m s e).2.2 = 1 then e / 4 else (og m e - 1) / 4) = wno (og m) m s e := rfl
    rw [hw] at z
    have wl : wno (og m) m s e < 10 := by
      rw [← hw]
      by_cases y : (CWe (og m) m s e).2.2 = 1
      · rw [if_pos y]; omega
      · rw [if_neg y]; omega
    have fin' := fin _ rfl wl
    generalize hq : wno (og m) m s e = q at z wl fin'
    refine Ev.neg (by rw [z]; simp (disch := omega) only [up_s, up_k, up_j, mm_neg, mm_def, ni_lt, ni_le, ni_eq, ni_mm, mm_ni, ni_lt_mm, ni_le_mm, mm_lt_ni, mm_le_ni, mm_lt_mm, mm_le_mm, ni_cl, ni_in, nI_add, ni_mul, ni_div, ni_rem, ni_rem2, fr_sub, fr_mm, fr_ge0, fr_lt0, fr_inj, l32_0, l32_1, l32_2, l32_3, l32_4, l32_5, l32_6, l32_7, l32_8, l32_9, l32_10, l32_11, l32_12, l32_13, l32_14, l32_15, l32_16, l32_20, l32_24, l32_25, l32_26, l32_31, l32_32, l32_34, l32_35, l32_39, l32_40, l32_44, l32_45, l32_46, l32_47, l32_48, l32_49, l32_57, l32_58, l32_59, l32_63, l32_64, l32_85, l32_90, l32_97, l32_99, l32_100, l32_110, l32_112, l32_122, l32_124, l32_125, l32_255, l32_680, l32_699, l32_700, l32_999, l32_2500, l32_99999, l32_100000, l32_1000000, if_true, if_false, ite_true, ite_false, ce_nm, Option.bind, if_pos, if_neg]; exact id) ?_
    rw [z]
    refine Ev.grd (by simp (disch := omega) only [up_s, up_k, up_j, mm_neg, mm_def, ni_lt, ni_le, ni_eq, ni_mm, mm_ni, ni_lt_mm, ni_le_mm, mm_lt_ni, mm_le_ni, mm_lt_mm, mm_le_mm, ni_cl, ni_in, nI_add, ni_mul, ni_div, ni_rem, ni_rem2, fr_sub, fr_mm, fr_ge0, fr_lt0, fr_inj, l32_0, l32_1, l32_2, l32_3, l32_4, l32_5, l32_6, l32_7, l32_8, l32_9, l32_10, l32_11, l32_12, l32_13, l32_14, l32_15, l32_16, l32_20, l32_24, l32_25, l32_26, l32_31, l32_32, l32_34, l32_35, l32_39, l32_40, l32_44, l32_45, l32_46, l32_47, l32_48, l32_49, l32_57, l32_58, l32_59, l32_63, l32_64, l32_85, l32_90, l32_97, l32_99, l32_100, l32_110, l32_112, l32_122, l32_124, l32_125, l32_255, l32_680, l32_699, l32_700, l32_999, l32_2500, l32_99999, l32_100000, l32_1000000, if_true, if_false, ite_true, ite_false, ce_nm, Option.bind, if_pos, if_neg]) (Ev.nm (Ev.grd (by simp (disch := omega) only [up_s, up_k, up_j, mm_neg, mm_def, ni_lt, ni_le, ni_eq, ni_mm, mm_ni, ni_lt_mm, ni_le_mm, mm_lt_ni, mm_le_ni, mm_lt_mm, mm_le_mm, ni_cl, ni_in, nI_add, ni_mul, ni_div, ni_rem, ni_rem2, fr_sub, fr_mm, fr_ge0, fr_lt0, fr_inj, l32_0, l32_1, l32_2, l32_3, l32_4, l32_5, l32_6, l32_7, l32_8, l32_9, l32_10, l32_11, l32_12, l32_13, l32_14, l32_15, l32_16, l32_20, l32_24, l32_25, l32_26, l32_31, l32_32, l32_34, l32_35, l32_39, l32_40, l32_44, l32_45, l32_46, l32_47, l32_48, l32_49, l32_57, l32_58, l32_59, l32_63, l32_64, l32_85, l32_90, l32_97, l32_99, l32_100, l32_110, l32_112, l32_122, l32_124, l32_125, l32_255, l32_680, l32_699, l32_700, l32_999, l32_2500, l32_99999, l32_100000, l32_1000000, if_true, if_false, ite_true, ite_false, ce_nm, Option.bind, if_pos, if_neg]) (Ev.nm ?_)))
    rw [ni_cl (by omega)]
    exact fin'
theorem x_isLesser {m : Nat → Nat} {kn e F : Nat} {h : Hp} (ok : OkG m) (cn : CNw h kn m) (he : e < 40) : f5_isLesserEnd F kn (nI e) h = some (if og m e ≠ 0 ∧ e < og m e - 1 then nI 1 else nI 0, h) := by
  have g := ok.2.2.2.1
  have hog := og_le g he
  have n4 := cn.2.2.2.1 e he
  refine Ev.eq ?_
  unfold f5_isLesserEnd
  rw [x_isCabled F kn e (og m e) h he (by omega) n4]
  refine ev_bs ?_
  dsimp only
  by_cases z : og m e = 0
  · refine Ev.pos (by rw [if_pos z]; rfl) (Ev.some ?_)
    rw [if_neg (by omega)]
    rfl
  · refine Ev.neg (by rw [if_neg z]; decide) (Ev.grd (ni_in (by omega) he) ?_)
    rw [ni_cl (by omega)]
    by_cases y : og m e - 1 ≤ e
    · refine Ev.pos (by rw [n4, fr_p (by omega)]; simp (disch := omega) only [up_s, up_k, up_j, mm_neg, mm_def, ni_lt, ni_le, ni_eq, ni_mm, mm_ni, ni_lt_mm, ni_le_mm, mm_lt_ni, mm_le_ni, mm_lt_mm, mm_le_mm, ni_cl, ni_in, nI_add, ni_mul, ni_div, ni_rem, ni_rem2, fr_sub, fr_mm, fr_ge0, fr_lt0, fr_inj, l32_0, l32_1, l32_2, l32_3, l32_4, l32_5, l32_6, l32_7, l32_8, l32_9, l32_10, l32_11, l32_12, l32_13, l32_14, l32_15, l32_16, l32_20, l32_24, l32_25, l32_26, l32_31, l32_32, l32_34, l32_35, l32_39, l32_40, l32_44, l32_45, l32_46, l32_47, l32_48, l32_49, l32_57, l32_58, l32_59, l32_63, l32_64, l32_85, l32_90, l32_97, l32_99, l32_100, l32_110, l32_112, l32_122, l32_124, l32_125, l32_255, l32_680, l32_699, l32_700, l32_999, l32_2500, l32_99999, l32_100000, l32_1000000, if_true, if_false, ite_true, ite_false, ce_nm, Option.bind, if_pos, if_neg]; exact y) (Ev.some ?_)
      rw [if_neg (by omega)]
      rfl
    · refine Ev.neg (by rw [n4, fr_p (by omega)]; simp (disch := omega) only [up_s, up_k, up_j, mm_neg, mm_def, ni_lt, ni_le, ni_eq, ni_mm, mm_ni, ni_lt_mm, ni_le_mm, mm_lt_ni, mm_le_ni, mm_lt_mm, mm_le_mm, ni_cl, ni_in, nI_add, ni_mul, ni_div, ni_rem, ni_rem2, fr_sub, fr_mm, fr_ge0, fr_lt0, fr_inj, l32_0, l32_1, l32_2, l32_3, l32_4, l32_5, l32_6, l32_7, l32_8, l32_9, l32_10, l32_11, l32_12, l32_13, l32_14, l32_15, l32_16, l32_20, l32_24, l32_25, l32_26, l32_31, l32_32, l32_34, l32_35, l32_39, l32_40, l32_44, l32_45, l32_46, l32_47, l32_48, l32_49, l32_57, l32_58, l32_59, l32_63, l32_64, l32_85, l32_90, l32_97, l32_99, l32_100, l32_110, l32_112, l32_122, l32_124, l32_125, l32_255, l32_680, l32_699, l32_700, l32_999, l32_2500, l32_99999, l32_100000, l32_1000000, if_true, if_false, ite_true, ite_false, ce_nm, Option.bind, if_pos, if_neg]; exact y) (Ev.some ?_)
      rw [if_pos (by omega)]
      rfl
def Dc (o : Nat → Nat) (s : Es) (i u : Nat) : Bool := mu o s u && decide (el o s u < i)
theorem Dc_same {o : Nat → Nat} {s : Es} {i u : Nat} (h : ¬ (mu o s u = true ∧ el o s u = i)) : Dc o s (i + 1) u = Dc o s i u := by
  unfold Dc
  cases hm : mu o s u with
  | false => rfl
  | true =>
    have : el o s u ≠ i := fun z => h ⟨hm, z⟩
    congr 1
    apply decide_eq_decide.mpr
    omega
theorem Dc_p {o : Nat → Nat} {s : Es} {i u : Nat} (h1 : mu o s u = true) (h2 : el o s u < i) : Dc o s i u = true := by
  unfold Dc
  rw [h1]
  simpa using h2
theorem Dc_n {o : Nat → Nat} {s : Es} {i u : Nat} (h2 : ¬ el o s u < i) : Dc o s i u = false := by
  unfold Dc
  have : decide (el o s u < i) = false := by simpa using h2
  rw [this]
  simp
/-- the class's election, its pairs below i through -/
def CF (h : Hp) (k : Nat) (m : Nat → Nat) (s : Es) (d : Nat → Bool) : Prop := ∀ v, v < 10 → h (k + 1) v = fr (s 1 v) ∧ h (k + 2) v = fr (Rd (og m) m s (d v) v) ∧ h (k + 3) v = nI (Kd (og m) m s (d v) v) ∧ h (k + 4) v = fr (Pd (og m) m s (d v) v)
theorem x_hpairs {m wt : Nat → Nat} {s : Es} {k kn t i0 F : Nat} {h : Hp} (hk : ce_isEl k) (hkn : ce_isNet kn) (ok : OkG m) (ob : OkB m) (cn : CNw h kn m) (cc : CC h kn m) (E : EM (og m) m wt t i0 s) (ht : t < 10000) (C : CE h k wt s) (hF : 1000 ≤ F) :
    Ev (ce_it (fun (st : Int32 × Hp) => f3_hold_b145 F k kn st.1 st.2) F ((0 : Int32), h)) (fun h' => Fr (k + 1) (k + 6) h h' ∧ CF h' k m s (mu (og m) s)) := by
  have h2 := ok.2.1
  have g := ok.2.2.2.1
  have bk := el_ge hk
  have bn := net_le hkn
  have i00 : ∀ u, Dc (og m) s 0 u = false := fun u => Dc_n (by omega)
  refine Ev.it (I := fun i st => st.1 = nI i ∧ Fr (k + 2) (k + 4) h st.2 ∧ CF st.2 k m s (Dc (og m) s i)) _ 40 ?_ F 0 _ (by omega) (by omega) ⟨rfl, Fr.refl _ _ _, fun v hv => ?_⟩
  rotate_left
  · rw [i00, Rd_f, Kd_f, Pd_f]
    obtain ⟨q1, q2, q3, q4, q5⟩ := C.2 v hv
    exact ⟨q1, q2, q5, q3⟩
  rintro e ⟨z, h1⟩ hi hI
  obtain ⟨rfl, f1, M1⟩ : z = nI e ∧ Fr (k + 2) (k + 4) h h1 ∧ CF h1 k m s (Dc (og m) s e) := hI
  show Ev (f3_hold_b145 F k kn (nI e) h1) _
  have cn1 := cn.fr hkn f1 (by omega)
  have cc1 : CC h1 kn m := fun u hu => by rw [f1 (kn + 4) (by omega), f1 (kn + 3) (by omega)]; exact cc u hu
  have nxt : nI e + 1 = nI (e + 1) := nI_1 _
  unfold f3_hold_b145
  by_cases hin : 40 ≤ e
  · refine Ev.pos (by simp (disch := omega) only [up_s, up_k, up_j, mm_neg, mm_def, ni_lt, ni_le, ni_eq, ni_mm, mm_ni, ni_lt_mm, ni_le_mm, mm_lt_ni, mm_le_ni, mm_lt_mm, mm_le_mm, ni_cl, ni_in, nI_add, ni_mul, ni_div, ni_rem, ni_rem2, fr_sub, fr_mm, fr_ge0, fr_lt0, fr_inj, l32_0, l32_1, l32_2, l32_3, l32_4, l32_5, l32_6, l32_7, l32_8, l32_9, l32_10, l32_11, l32_12, l32_13, l32_14, l32_15, l32_16, l32_20, l32_24, l32_25, l32_26, l32_31, l32_32, l32_34, l32_35, l32_39, l32_40, l32_44, l32_45, l32_46, l32_47, l32_48, l32_49, l32_57, l32_58, l32_59, l32_63, l32_64, l32_85, l32_90, l32_97, l32_99, l32_100, l32_110, l32_112, l32_122, l32_124, l32_125, l32_255, l32_680, l32_699, l32_700, l32_999, l32_2500, l32_99999, l32_100000, l32_1000000, if_true, if_false, ite_true, ite_false, ce_nm, Option.bind, if_pos, if_neg]; exact hin) (Ev.some ⟨f1.wide (by omega) (by omega), fun v hv => ?_⟩)
    have : e = 40 := by omega
    subst this
    have e1 : Dc (og m) s 40 v = mu (og m) s v := by
      cases hm : mu (og m) s v with
      | false => unfold Dc; rw [hm]; rfl
      | true =>
        obtain ⟨q, q1, q2, q3⟩ := mu_el g E hv hm
        exact Dc_p hm (by omega)
    have := M1 v hv
    rw [e1] at this
    exact this
  · have he : e < 40 := by omega
    refine Ev.neg (by simp (disch := omega) only [up_s, up_k, up_j, mm_neg, mm_def, ni_lt, ni_le, ni_eq, ni_mm, mm_ni, ni_lt_mm, ni_le_mm, mm_lt_ni, mm_le_ni, mm_lt_mm, mm_le_mm, ni_cl, ni_in, nI_add, ni_mul, ni_div, ni_rem, ni_rem2, fr_sub, fr_mm, fr_ge0, fr_lt0, fr_inj, l32_0, l32_1, l32_2, l32_3, l32_4, l32_5, l32_6, l32_7, l32_8, l32_9, l32_10, l32_11, l32_12, l32_13, l32_14, l32_15, l32_16, l32_20, l32_24, l32_25, l32_26, l32_31, l32_32, l32_34, l32_35, l32_39, l32_40, l32_44, l32_45, l32_46, l32_47, l32_48, l32_49, l32_57, l32_58, l32_59, l32_63, l32_64, l32_85, l32_90, l32_97, l32_99, l32_100, l32_110, l32_112, l32_122, l32_124, l32_125, l32_255, l32_680, l32_699, l32_700, l32_999, l32_2500, l32_99999, l32_100000, l32_1000000, if_true, if_false, ite_true, ite_false, ce_nm, Option.bind, if_pos, if_neg]; exact hin) ?_
    rw [x_isLesser ok cn1 he]
    refine ev_bs ?_
    dsimp only
    have same : (∀ u, u < 10 → ¬ (mu (og m) s u = true ∧ el (og m) s u = e)) → CF h1 k m s (Dc (og m) s (e + 1)) := fun hh v hv => by
      rw [Dc_same (hh v hv)]
      exact M1 v hv
    by_cases hl : og m e ≠ 0 ∧ e < og m e - 1
    · obtain ⟨h0, hl⟩ := hl
      obtain ⟨g1, g2, g3⟩ := g e he h0
      have hev := (ok.2.2.2.2 e he h0).1
      have hew := (ok.2.2.2.2 (og m e - 1) (by omega) (by rw [g2]; omega)).1
      have n5 : h1 (kn + 5) e = nI (og m e - 1) := by rw [cn1.2.2.2.1 e he, fr_p (by omega)]
      have b2 : ∀ v, v < 10 → s 2 v ≤ 40 := fun v hv => by
        by_cases z : s 2 v = 0
        · omega
        · exact (E.2.1 v hv (E.s2 hv z)).2.2.1
      have bP : ∀ d v, v < 10 → Pd (og m) m s d v ≤ 40 := fun d v hv => by
        have := b2 v hv
        unfold Pd
        by_cases y : d = true ∧ wno (og m) m s (el (og m) s v) = v
        · rw [if_pos y]; omega
        · rw [if_neg y]; exact this
      refine Ev.neg (by rw [if_pos ⟨h0, hl⟩]; decide) ?_
      -- the two tests
      have a1 : (h1 (k + 4) (e / 4) = nI e) ↔ s 2 (e / 4) = e + 1 := by
        rw [(M1 (e / 4) (by omega)).2.2.2, show nI e = fr (e + 1) from (fr_s e).symm, fr_inj (by have := bP (Dc (og m) s e (e / 4)) (e / 4) (by omega); omega) (by omega)]
        constructor
        · intro y
          unfold Pd at y
          by_cases w : Dc (og m) s e (e / 4) = true ∧ wno (og m) m s (el (og m) s (e / 4)) = e / 4
          · rw [if_pos w] at y; omega
          · rw [if_neg w] at y; exact y
        · intro y
          have : Dc (og m) s e (e / 4) = false := Dc_n (by unfold el; rw [show s 2 (e / 4) - 1 = e by omega]; omega)
          rw [this, Pd_f]
          exact y
      have a2 : (h1 (k + 4) ((og m e - 1) / 4) = nI (og m e - 1)) ↔ s 2 ((og m e - 1) / 4) = og m e := by
        rw [(M1 _ (by omega)).2.2.2, ← fr_p (by omega : 0 < og m e), fr_inj (by have := bP (Dc (og m) s e ((og m e - 1) / 4)) ((og m e - 1) / 4) (by omega); omega) (by omega)]
        constructor
        · intro y
          unfold Pd at y
          by_cases w : Dc (og m) s e ((og m e - 1) / 4) = true ∧ wno (og m) m s (el (og m) s ((og m e - 1) / 4)) = (og m e - 1) / 4
          · rw [if_pos w] at y; omega
          · rw [if_neg w] at y; exact y
        · intro y
          have : Dc (og m) s e ((og m e - 1) / 4) = false := Dc_n (by unfold el; rw [y, g2]; omega)
          rw [this, Pd_f]
          exact y
      have both : f3_isCalledBothWays F k kn (nI e) h1 = some (if s 2 (e / 4) = e + 1 ∧ s 2 ((og m e - 1) / 4) = og m e then nI 1 else nI 0, h1) := by
        refine Ev.eq ?_
        unfold f3_isCalledBothWays
        refine Ev.grd (ni_in (by omega) he) ?_
        rw [x_nodeOf _ _ _ (by omega)]
        refine ev_bs ?_
        dsimp only
        refine Ev.grd (ni_in (by omega) (by omega)) ?_
        rw [ni_cl (by omega), ni_cl (by omega)]
        by_cases y1 : s 2 (e / 4) = e + 1
        · refine Ev.pos (a1.mpr y1) ?_
          rw [n5, x_nodeOf _ _ _ (by omega)]
          refine ev_bs ?_
          dsimp only
          refine Ev.grd (ni_in (by omega) (by omega)) ?_
          rw [ni_cl (by omega)]
          by_cases y2 : s 2 ((og m e - 1) / 4) = og m e
          · refine Ev.pos (a2.mpr y2) (Ev.some ?_)
            rw [if_pos ⟨y1, y2⟩]
            rfl
          · refine Ev.neg (fun q => y2 (a2.mp q)) (Ev.some ?_)
            rw [if_neg (fun q => y2 q.2)]
            rfl
        · refine Ev.neg (fun q => y1 (a1.mp q)) (Ev.some ?_)
          rw [if_neg (fun q => y1 q.1)]
          rfl
      rw [both]
      refine ev_bs ?_
      dsimp only
      by_cases y : s 2 (e / 4) = e + 1 ∧ s 2 ((og m e - 1) / 4) = og m e
      · obtain ⟨y1, y2⟩ := y
        refine Ev.neg (by rw [if_pos ⟨y1, y2⟩]; decide) ?_
        obtain ⟨p1, p2, p3, p4⟩ := el_mu g he h0 hl y1 y2
        have d1 : Dc (og m) s e (e / 4) = false := Dc_n (by omega)
        have d2 : Dc (og m) s e ((og m e - 1) / 4) = false := Dc_n (by omega)
        have d3 : Dc (og m) s (e + 1) (e / 4) = true := Dc_p p1 (by omega)
        have d4 : Dc (og m) s (e + 1) ((og m e - 1) / 4) = true := Dc_p p3 (by omega)
        refine Ev.bind (x_contend hk hkn ok ob cn1 cc1 E ht he h0 hl y1 y2 (fun q hq => by rw [f1 _ (by omega)]; exact C.1 q hq) (by rw [(M1 _ (by omega)).2.2.1, d1, Kd_f]) (by rw [(M1 _ (by omega)).2.2.1, d2, Kd_f]) hF) (fun h3 hh => Ev.some ⟨by omega, nxt, f1.trans hh.1, fun v hv => ?_⟩)
        obtain ⟨r1, r2, r3, r4⟩ := M1 v hv
        obtain ⟨u2', u3', u4'⟩ := hh.2 v hv
        dsimp only
        rw [hh.1 (k + 1) (by omega), u2', u3', u4']
        have wl : wno (og m) m s e = e / 4 ∨ wno (og m) m s e = (og m e - 1) / 4 := by
          unfold wno
          by_cases x : (CWe (og m) m s e).2.2 = 1
          · rw [if_pos x]; exact Or.inl rfl
          · rw [if_neg x]; exact Or.inr rfl
        by_cases x : v = e / 4 ∨ v = (og m e - 1) / 4
        · have hd : Dc (og m) s (e + 1) v = true := by rcases x with rfl | rfl <;> assumption
          have hd0 : Dc (og m) s e v = false := by rcases x with rfl | rfl <;> assumption
          have hel : el (og m) s v = e := by rcases x with rfl | rfl <;> assumption
          rw [hd0, Rd_f] at r2
          rw [hd0, Pd_f] at r4
          rw [hd, if_pos x]
          refine ⟨r1, ?_, ?_, ?_⟩
          · unfold Rd
            rw [hel]
            by_cases q : v = wno (og m) m s e
            · rw [if_pos q, if_pos ⟨rfl, q.symm⟩, fr_s]
            · rw [if_neg q, if_neg (fun z => q z.2.symm)]; exact r2
          · unfold Kd
            rw [hel, if_pos rfl]
          · unfold Pd
            rw [hel]
            by_cases q : v = wno (og m) m s e
            · rw [if_pos q, if_pos ⟨rfl, q.symm⟩, fr_0]
            · rw [if_neg q, if_neg (fun z => q z.2.symm)]; exact r4
        · have q : ¬ v = wno (og m) m s e := by omega
          have hs : Dc (og m) s (e + 1) v = Dc (og m) s e v := Dc_same (fun ⟨z1, z2⟩ => by
            obtain ⟨e', q1, q2, q3, q4, q5, q6, q7⟩ := mu_el g E hv z1
            rw [z2] at q1
            subst q1
            exact x q7)
          rw [if_neg x, if_neg q, if_neg q, hs]
          exact ⟨r1, r2, r3, r4⟩
      · refine Ev.pos (by rw [if_neg y]; rfl) (Ev.some ⟨by omega, nxt, f1, same (fun u hu ⟨z1, z2⟩ => ?_)⟩)
        obtain ⟨e', q1, q2, q3, q4, q5, q6, q7⟩ := mu_el g E hu z1
        rw [z2] at q1
        subst q1
        exact y ⟨q5, q6⟩
    · refine Ev.pos (by rw [if_neg hl]; rfl) (Ev.some ⟨by omega, nxt, f1, same (fun u hu ⟨z1, z2⟩ => ?_)⟩)
      obtain ⟨e', q1, q2, q3, q4, q5, q6, q7⟩ := mu_el g E hu z1
      rw [z2] at q1
      subst q1
      exact hl ⟨q3, q4⟩
/-- Election.hold -/
theorem x_hold {m wt : Nat → Nat} {k kn F : Nat} {h : Hp} {x : Int32} (hk : ce_isEl k) (hkn : ce_isNet kn) (ok : OkG m) (ob : OkB m) (hw : ∀ v, v < 10 → wt v ≤ 20) (hm0 : m 0 ≤ 20) (cn : CNw h kn m) (c1 : h kn 1 = nI (m 0)) (c2 : ∀ v, v < m 2 → h (kn + 2) v = nI (m (15 + v)) ∧ m (15 + v) ≤ 1) (cc : CC h kn m) (hx : ∀ v, v < m 2 → wt v = if m (15 + v) = 0 ∧ ¬ nI v = x then 0 else m 0) (hF : 1000 ≤ F) :
    Ev (f3_hold F k kn x h) (fun h' => Fr (k + 1) (k + 6) h h' ∧ CF h' k m (rM (og m) m wt (m 2) 700) (mu (og m) (rM (og m) m wt (m 2) 700))) := by
  have bk := el_ge hk
  have bn := net_le hkn
  unfold f3_hold
  refine x_hfresh (wt := wt) hF (fun h1 f1 C => ?_)
  refine Ev.bind (x_hticks hk hkn ok hw hm0 (cn.fr hkn f1 (by omega)) (by rw [f1 _ (by omega)]; exact c1) (fun v hv => by rw [f1 _ (by omega)]; exact c2 v hv) hx C hF) (fun h3 hh => ?_)
  have f3 := f1.trans hh.1
  refine Ev.bind (x_hpairs hk hkn ok ob (cn.fr hkn f3 (by omega)) (fun u hu => by rw [f3 (kn + 4) (by omega), f3 (kn + 3) (by omega)]; exact cc u hu) (EM_e (wt := wt) ok 699) (by omega) hh.2 hF) (fun h4 h4h => Ev.some ⟨f3.trans h4h.1, h4h.2⟩)
