-- the class's listen
theorem x_listen {m wt : Nat → Nat} {s : Es} {t v k kn F : Nat} {h : Hp} (hk : ce_isEl k) (hkn : ce_isNet kn) (ok : OkG m) (cn : CNw h kn m) (C : CE h k wt s) (E : EM (og m) m wt t v s) (hv : v < m 2) (ht : t < 10000) (hw : wt v ≤ 20) (hF : 1000 ≤ F) :
    Ev (f3_listen F k kn (nI v) (nI t) (nI (wt v)) h) (fun h' => Fr (k + 1) (k + 6) h h' ∧ CE h' k wt (es (og m) m wt t v s)) := by
  have h2 := ok.2.1
  have g := ok.2.2.2.1
  have hv10 : v < 10 := by omega
  have bk := el_ge hk
  have bn := net_le hkn
  have q1 := E.b1 hv10
  have q4 := E.b4 hv10
  obtain ⟨e1, e2, e3, e4, e5, e6, e7, e8, e9, e10⟩ := E
  have hb : ∀ e, e < 40 → s 0 e < 100000 := fun e he => by have := e7 e he; omega
  obtain ⟨a1, a2, a3, a4, a5⟩ := C.2 v hv10
  unfold f3_listen
  refine Ev.grd (by simp (disch := omega) only [up_s, up_k, up_j, mm_neg, mm_def, ni_lt, ni_le, ni_eq, ni_mm, mm_ni, ni_lt_mm, ni_le_mm, mm_lt_ni, mm_le_ni, mm_lt_mm, mm_le_mm, ni_cl, ni_in, nI_add, ni_mul, ni_div, ni_rem, ni_rem2, fr_sub, fr_mm, fr_ge0, fr_lt0, fr_inj, l32_0, l32_1, l32_2, l32_3, l32_4, l32_5, l32_6, l32_7, l32_8, l32_9, l32_10, l32_11, l32_12, l32_13, l32_14, l32_15, l32_16, l32_20, l32_24, l32_25, l32_26, l32_31, l32_32, l32_34, l32_35, l32_39, l32_40, l32_44, l32_45, l32_46, l32_47, l32_48, l32_49, l32_57, l32_58, l32_59, l32_63, l32_64, l32_85, l32_90, l32_97, l32_99, l32_100, l32_110, l32_112, l32_122, l32_124, l32_125, l32_255, l32_680, l32_699, l32_700, l32_999, l32_2500, l32_99999, l32_100000, l32_1000000, if_true, if_false, ite_true, ite_false, ce_nm, Option.bind, if_pos, if_neg]) ?_
  by_cases d1 : s 1 v = 0
  · refine Ev.pos (by simp (disch := omega) only [up_s, up_k, up_j, mm_neg, mm_def, ni_lt, ni_le, ni_eq, ni_mm, mm_ni, ni_lt_mm, ni_le_mm, mm_lt_ni, mm_le_ni, mm_lt_mm, mm_le_mm, ni_cl, ni_in, nI_add, ni_mul, ni_div, ni_rem, ni_rem2, fr_sub, fr_mm, fr_ge0, fr_lt0, fr_inj, l32_0, l32_1, l32_2, l32_3, l32_4, l32_5, l32_6, l32_7, l32_8, l32_9, l32_10, l32_11, l32_12, l32_13, l32_14, l32_15, l32_16, l32_20, l32_24, l32_25, l32_26, l32_31, l32_32, l32_34, l32_35, l32_39, l32_40, l32_44, l32_45, l32_46, l32_47, l32_48, l32_49, l32_57, l32_58, l32_59, l32_63, l32_64, l32_85, l32_90, l32_97, l32_99, l32_100, l32_110, l32_112, l32_122, l32_124, l32_125, l32_255, l32_680, l32_699, l32_700, l32_999, l32_2500, l32_99999, l32_100000, l32_1000000, if_true, if_false, ite_true, ite_false, ce_nm, Option.bind, if_pos, if_neg, a1]; exact d1) (Ev.grd (by simp (disch := omega) only [up_s, up_k, up_j, mm_neg, mm_def, ni_lt, ni_le, ni_eq, ni_mm, mm_ni, ni_lt_mm, ni_le_mm, mm_lt_ni, mm_le_ni, mm_lt_mm, mm_le_mm, ni_cl, ni_in, nI_add, ni_mul, ni_div, ni_rem, ni_rem2, fr_sub, fr_mm, fr_ge0, fr_lt0, fr_inj, l32_0, l32_1, l32_2, l32_3, l32_4, l32_5, l32_6, l32_7, l32_8, l32_9, l32_10, l32_11, l32_12, l32_13, l32_14, l32_15, l32_16, l32_20, l32_24, l32_25, l32_26, l32_31, l32_32, l32_34, l32_35, l32_39, l32_40, l32_44, l32_45, l32_46, l32_47, l32_48, l32_49, l32_57, l32_58, l32_59, l32_63, l32_64, l32_85, l32_90, l32_97, l32_99, l32_100, l32_110, l32_112, l32_122, l32_124, l32_125, l32_255, l32_680, l32_699, l32_700, l32_999, l32_2500, l32_99999, l32_100000, l32_1000000, if_true, if_false, ite_true, ite_false, ce_nm, Option.bind, if_pos, if_neg]) ?_)
    by_cases d4 : s 4 v = 0
    · refine Ev.pos (by simp (disch := omega) only [up_s, up_k, up_j, mm_neg, mm_def, ni_lt, ni_le, ni_eq, ni_mm, mm_ni, ni_lt_mm, ni_le_mm, mm_lt_ni, mm_le_ni, mm_lt_mm, mm_le_mm, ni_cl, ni_in, nI_add, ni_mul, ni_div, ni_rem, ni_rem2, fr_sub, fr_mm, fr_ge0, fr_lt0, fr_inj, l32_0, l32_1, l32_2, l32_3, l32_4, l32_5, l32_6, l32_7, l32_8, l32_9, l32_10, l32_11, l32_12, l32_13, l32_14, l32_15, l32_16, l32_20, l32_24, l32_25, l32_26, l32_31, l32_32, l32_34, l32_35, l32_39, l32_40, l32_44, l32_45, l32_46, l32_47, l32_48, l32_49, l32_57, l32_58, l32_59, l32_63, l32_64, l32_85, l32_90, l32_97, l32_99, l32_100, l32_110, l32_112, l32_122, l32_124, l32_125, l32_255, l32_680, l32_699, l32_700, l32_999, l32_2500, l32_99999, l32_100000, l32_1000000, if_true, if_false, ite_true, ite_false, ce_nm, Option.bind, if_pos, if_neg, a2]; exact d4) ?_
      refine Ev.bind (x_listen_loop (nI (wt v)) ok hkn cn C hb hv (by omega) hF) (fun o ho => ?_)
      subst ho
      dsimp only
      have hc4 := ct_le (si (og m) s t v) 4
      have lps := lp_spec (si (og m) s t v) 4
      have hes : es (og m) m wt t v s = (if ct (si (og m) s t v) 4 = 0 then u2 s 4 v (t + 1) else if ct (si (og m) s t v) 4 = 1 then (if (if s 3 v = 0 then t else s 3 v - 1) + wt v ≤ t then cl (og m) m t v (lp (si (og m) s t v) 4 - 1) (u2 s 3 v (if s 3 v = 0 then t + 1 else s 3 v)) else u2 s 3 v (if s 3 v = 0 then t + 1 else s 3 v)) else s) := by
        unfold es
        rw [if_neg (by omega)]
      rw [hes]
      have sit : ∀ p, si (og m) s t v p = true → og m (4 * v + p) ≠ 0 := fun p hp => (si_t.mp hp).1
      generalize ct (si (og m) s t v) 4 = n4 at hc4 lps ⊢
      generalize hlp : lp (si (og m) s t v) 4 = l4 at lps ⊢
      by_cases c0 : n4 = 0
      · rw [if_pos c0]
        refine Ev.pos (by rw [c0]; rfl) (Ev.grd (by simp (disch := omega) only [up_s, up_k, up_j, mm_neg, mm_def, ni_lt, ni_le, ni_eq, ni_mm, mm_ni, ni_lt_mm, ni_le_mm, mm_lt_ni, mm_le_ni, mm_lt_mm, mm_le_mm, ni_cl, ni_in, nI_add, ni_mul, ni_div, ni_rem, ni_rem2, fr_sub, fr_mm, fr_ge0, fr_lt0, fr_inj, l32_0, l32_1, l32_2, l32_3, l32_4, l32_5, l32_6, l32_7, l32_8, l32_9, l32_10, l32_11, l32_12, l32_13, l32_14, l32_15, l32_16, l32_20, l32_24, l32_25, l32_26, l32_31, l32_32, l32_34, l32_35, l32_39, l32_40, l32_44, l32_45, l32_46, l32_47, l32_48, l32_49, l32_57, l32_58, l32_59, l32_63, l32_64, l32_85, l32_90, l32_97, l32_99, l32_100, l32_110, l32_112, l32_122, l32_124, l32_125, l32_255, l32_680, l32_699, l32_700, l32_999, l32_2500, l32_99999, l32_100000, l32_1000000, if_true, if_false, ite_true, ite_false, ce_nm, Option.bind, if_pos, if_neg]) (Ev.nm (Ev.some ⟨(up_fr _ _ _ _).wide (by omega) (by omega), ?_⟩)))
        rw [ni_cl (by omega)]
        refine ⟨fun e he => ?_, fun w hw' => ?_⟩
        · rw [up_k _ _ _ _ _ _ (by omega), u2_k (by omega)]; exact C.1 e he
        · obtain ⟨m1, m2, m3, m4, m5⟩ := C.2 w hw'
          refine ⟨by rw [up_k _ _ _ _ _ _ (by omega), u2_k (by omega)]; exact m1, ?_, by rw [up_k _ _ _ _ _ _ (by omega), u2_k (by omega)]; exact m3, by rw [up_k _ _ _ _ _ _ (by omega), u2_k (by omega)]; exact m4, by rw [up_k _ _ _ _ _ _ (by omega)]; exact m5⟩
          by_cases z : w = v
          · rw [z, up_s, u2_s]; exact (fr_s t).symm
          · rw [up_j _ _ _ _ _ z, u2_j z]; exact m2
      · rw [if_neg c0]
        refine Ev.neg (by simp (disch := omega) only [up_s, up_k, up_j, mm_neg, mm_def, ni_lt, ni_le, ni_eq, ni_mm, mm_ni, ni_lt_mm, ni_le_mm, mm_lt_ni, mm_le_ni, mm_lt_mm, mm_le_mm, ni_cl, ni_in, nI_add, ni_mul, ni_div, ni_rem, ni_rem2, fr_sub, fr_mm, fr_ge0, fr_lt0, fr_inj, l32_0, l32_1, l32_2, l32_3, l32_4, l32_5, l32_6, l32_7, l32_8, l32_9, l32_10, l32_11, l32_12, l32_13, l32_14, l32_15, l32_16, l32_20, l32_24, l32_25, l32_26, l32_31, l32_32, l32_34, l32_35, l32_39, l32_40, l32_44, l32_45, l32_46, l32_47, l32_48, l32_49, l32_57, l32_58, l32_59, l32_63, l32_64, l32_85, l32_90, l32_97, l32_99, l32_100, l32_110, l32_112, l32_122, l32_124, l32_125, l32_255, l32_680, l32_699, l32_700, l32_999, l32_2500, l32_99999, l32_100000, l32_1000000, if_true, if_false, ite_true, ite_false, ce_nm, Option.bind, if_pos, if_neg]; exact c0) ?_
        by_cases c1 : n4 = 1
        · rw [if_pos c1]
          refine Ev.pos (by rw [c1]; rfl) (Ev.grd (by simp (disch := omega) only [up_s, up_k, up_j, mm_neg, mm_def, ni_lt, ni_le, ni_eq, ni_mm, mm_ni, ni_lt_mm, ni_le_mm, mm_lt_ni, mm_le_ni, mm_lt_mm, mm_le_mm, ni_cl, ni_in, nI_add, ni_mul, ni_div, ni_rem, ni_rem2, fr_sub, fr_mm, fr_ge0, fr_lt0, fr_inj, l32_0, l32_1, l32_2, l32_3, l32_4, l32_5, l32_6, l32_7, l32_8, l32_9, l32_10, l32_11, l32_12, l32_13, l32_14, l32_15, l32_16, l32_20, l32_24, l32_25, l32_26, l32_31, l32_32, l32_34, l32_35, l32_39, l32_40, l32_44, l32_45, l32_46, l32_47, l32_48, l32_49, l32_57, l32_58, l32_59, l32_63, l32_64, l32_85, l32_90, l32_97, l32_99, l32_100, l32_110, l32_112, l32_122, l32_124, l32_125, l32_255, l32_680, l32_699, l32_700, l32_999, l32_2500, l32_99999, l32_100000, l32_1000000, if_true, if_false, ite_true, ite_false, ce_nm, Option.bind, if_pos, if_neg]) (Ev.grd (by simp (disch := omega) only [up_s, up_k, up_j, mm_neg, mm_def, ni_lt, ni_le, ni_eq, ni_mm, mm_ni, ni_lt_mm, ni_le_mm, mm_lt_ni, mm_le_ni, mm_lt_mm, mm_le_mm, ni_cl, ni_in, nI_add, ni_mul, ni_div, ni_rem, ni_rem2, fr_sub, fr_mm, fr_ge0, fr_lt0, fr_inj, l32_0, l32_1, l32_2, l32_3, l32_4, l32_5, l32_6, l32_7, l32_8, l32_9, l32_10, l32_11, l32_12, l32_13, l32_14, l32_15, l32_16, l32_20, l32_24, l32_25, l32_26, l32_31, l32_32, l32_34, l32_35, l32_39, l32_40, l32_44, l32_45, l32_46, l32_47, l32_48, l32_49, l32_57, l32_58, l32_59, l32_63, l32_64, l32_85, l32_90, l32_97, l32_99, l32_100, l32_110, l32_112, l32_122, l32_124, l32_125, l32_255, l32_680, l32_699, l32_700, l32_999, l32_2500, l32_99999, l32_100000, l32_1000000, if_true, if_false, ite_true, ite_false, ce_nm, Option.bind, if_pos, if_neg]) (Ev.nm (Ev.grd (by simp (disch := omega) only [up_s, up_k, up_j, mm_neg, mm_def, ni_lt, ni_le, ni_eq, ni_mm, mm_ni, ni_lt_mm, ni_le_mm, mm_lt_ni, mm_le_ni, mm_lt_mm, mm_le_mm, ni_cl, ni_in, nI_add, ni_mul, ni_div, ni_rem, ni_rem2, fr_sub, fr_mm, fr_ge0, fr_lt0, fr_inj, l32_0, l32_1, l32_2, l32_3, l32_4, l32_5, l32_6, l32_7, l32_8, l32_9, l32_10, l32_11, l32_12, l32_13, l32_14, l32_15, l32_16, l32_20, l32_24, l32_25, l32_26, l32_31, l32_32, l32_34, l32_35, l32_39, l32_40, l32_44, l32_45, l32_46, l32_47, l32_48, l32_49, l32_57, l32_58, l32_59, l32_63, l32_64, l32_85, l32_90, l32_97, l32_99, l32_100, l32_110, l32_112, l32_122, l32_124, l32_125, l32_255, l32_680, l32_699, l32_700, l32_999, l32_2500, l32_99999, l32_100000, l32_1000000, if_true, if_false, ite_true, ite_false, ce_nm, Option.bind, if_pos, if_neg]) ?_))))
          rw [ni_cl (by omega)]
          have lz : l4 ≠ 0 := fun z => by have := lps.2.2 z; omega
          have le4 := lps.1
          have s5 := e5 v hv10
          obtain ⟨ab, hab⟩ : ∃ ab, ab = (if s 3 v = 0 then t + 1 else s 3 v) := ⟨_, rfl⟩
          have hab1 : (if s 3 v = 0 then t else s 3 v - 1) = ab - 1 := by
            rw [hab]
            by_cases z : s 3 v = 0
            · rw [if_pos z, if_pos z]; rfl
            · rw [if_neg z, if_neg z]
          have hab0 : ab ≠ 0 := by
            rw [hab]
            by_cases z : s 3 v = 0
            · rw [if_pos z]; omega
            · rw [if_neg z]; exact z
          have habt : ab ≤ t + 1 := by
            rw [hab]
            by_cases z : s 3 v = 0
            · rw [if_pos z]; omega
            · rw [if_neg z]; omega
          have hnew : (if nI t + nI (wt v) < h (k + 5) v then nI t + nI (wt v) else h (k + 5) v) = nI (ab - 1 + wt v) := by
            rw [nI_add, a4]
            by_cases z : s 3 v = 0
            · rw [if_pos z, if_pos (by rw [ni_lt (by omega) (by omega)]; omega)]
              congr 1
              rw [hab, if_pos z]
              omega
            · rw [if_neg z, if_neg (by rw [ni_lt (by omega) (by omega)]; omega)]
              congr 1
              rw [hab, if_neg z]
          rw [hnew, hab1, ← hab, if_neg lz]
          obtain ⟨p, hp⟩ : ∃ p, l4 = p + 1 := ⟨l4 - 1, by omega⟩
          have psi := lps.2.1 lz
          rw [hp] at psi ⊢
          rw [show p + 1 - 1 = p from rfl] at psi ⊢
          have qo := sit p psi
          have fx : fr (4 * v + (p + 1)) = nI (4 * v + p) := fr_s _
          rw [fx]
          obtain ⟨h1, eh1⟩ : ∃ z, z = hp_up h (k + 5) v (nI (ab - 1 + wt v)) := ⟨_, rfl⟩
          rw [← eh1]
          have f1 : Fr (k + 1) (k + 6) h h1 := by rw [eh1]; exact (up_fr _ _ _ _).wide (by omega) (by omega)
          have e5' : h1 (k + 5) v = nI (ab - 1 + wt v) := by rw [eh1, up_s]
          have C1 : CE h1 k wt (u2 s 3 v ab) := by
            rw [eh1]
            refine ⟨fun e he => ?_, fun w hw' => ?_⟩
            · rw [up_k _ _ _ _ _ _ (by omega), u2_k (by omega)]; exact C.1 e he
            · obtain ⟨m1, m2, m3, m4, m5⟩ := C.2 w hw'
              refine ⟨by rw [up_k _ _ _ _ _ _ (by omega), u2_k (by omega)]; exact m1, by rw [up_k _ _ _ _ _ _ (by omega), u2_k (by omega)]; exact m2, by rw [up_k _ _ _ _ _ _ (by omega), u2_k (by omega)]; exact m3, ?_, by rw [up_k _ _ _ _ _ _ (by omega)]; exact m5⟩
              by_cases z : w = v
              · rw [z, up_s, u2_s, if_neg hab0]
              · rw [up_j _ _ _ _ _ z, u2_j z]; exact m4
          by_cases due : ab - 1 + wt v ≤ t
          · rw [if_pos due]
            refine Ev.neg (by rw [e5', ni_lt (by omega) (by omega)]; omega) ?_
            rw [x_callBy hk hkn ok (cn.fr hkn f1 (by omega)) (by omega) qo (by omega), show (4 * v + p) / 4 = v by omega]
            refine Ev.bind (Ev.of (P := fun r => r = _) rfl rfl) (fun r hr => Ev.some ?_)
            rw [hr]
            exact ⟨((f1.trans ((up_fr _ (k + 1) _ _).wide (by omega) (by omega))).trans ((up_fr _ (k + 4) _ _).wide (by omega) (by omega))).trans ((up_fr _ (k + 6) _ _).wide (by omega) (by omega)), CE_cl C1⟩
          · rw [if_neg due]
            exact Ev.pos (by rw [e5', ni_lt (by omega) (by omega)]; omega) (Ev.some ⟨f1, C1⟩)
        · rw [if_neg c1]
          exact Ev.neg (by simp (disch := omega) only [up_s, up_k, up_j, mm_neg, mm_def, ni_lt, ni_le, ni_eq, ni_mm, mm_ni, ni_lt_mm, ni_le_mm, mm_lt_ni, mm_le_ni, mm_lt_mm, mm_le_mm, ni_cl, ni_in, nI_add, ni_mul, ni_div, ni_rem, ni_rem2, fr_sub, fr_mm, fr_ge0, fr_lt0, fr_inj, l32_0, l32_1, l32_2, l32_3, l32_4, l32_5, l32_6, l32_7, l32_8, l32_9, l32_10, l32_11, l32_12, l32_13, l32_14, l32_15, l32_16, l32_20, l32_24, l32_25, l32_26, l32_31, l32_32, l32_34, l32_35, l32_39, l32_40, l32_44, l32_45, l32_46, l32_47, l32_48, l32_49, l32_57, l32_58, l32_59, l32_63, l32_64, l32_85, l32_90, l32_97, l32_99, l32_100, l32_110, l32_112, l32_122, l32_124, l32_125, l32_255, l32_680, l32_699, l32_700, l32_999, l32_2500, l32_99999, l32_100000, l32_1000000, if_true, if_false, ite_true, ite_false, ce_nm, Option.bind, if_pos, if_neg]; exact c1) (Ev.some ⟨Fr.refl _ _ _, C⟩)
    · rw [es_dec (Or.inr d4)]
      exact Ev.neg (by simp (disch := omega) only [up_s, up_k, up_j, mm_neg, mm_def, ni_lt, ni_le, ni_eq, ni_mm, mm_ni, ni_lt_mm, ni_le_mm, mm_lt_ni, mm_le_ni, mm_lt_mm, mm_le_mm, ni_cl, ni_in, nI_add, ni_mul, ni_div, ni_rem, ni_rem2, fr_sub, fr_mm, fr_ge0, fr_lt0, fr_inj, l32_0, l32_1, l32_2, l32_3, l32_4, l32_5, l32_6, l32_7, l32_8, l32_9, l32_10, l32_11, l32_12, l32_13, l32_14, l32_15, l32_16, l32_20, l32_24, l32_25, l32_26, l32_31, l32_32, l32_34, l32_35, l32_39, l32_40, l32_44, l32_45, l32_46, l32_47, l32_48, l32_49, l32_57, l32_58, l32_59, l32_63, l32_64, l32_85, l32_90, l32_97, l32_99, l32_100, l32_110, l32_112, l32_122, l32_124, l32_125, l32_255, l32_680, l32_699, l32_700, l32_999, l32_2500, l32_99999, l32_100000, l32_1000000, if_true, if_false, ite_true, ite_false, ce_nm, Option.bind, if_pos, if_neg, a2]; exact d4) (Ev.some ⟨Fr.refl _ _ _, C⟩)
  · rw [es_dec (Or.inl d1)]
    exact Ev.neg (by simp (disch := omega) only [up_s, up_k, up_j, mm_neg, mm_def, ni_lt, ni_le, ni_eq, ni_mm, mm_ni, ni_lt_mm, ni_le_mm, mm_lt_ni, mm_le_ni, mm_lt_mm, mm_le_mm, ni_cl, ni_in, nI_add, ni_mul, ni_div, ni_rem, ni_rem2, fr_sub, fr_mm, fr_ge0, fr_lt0, fr_inj, l32_0, l32_1, l32_2, l32_3, l32_4, l32_5, l32_6, l32_7, l32_8, l32_9, l32_10, l32_11, l32_12, l32_13, l32_14, l32_15, l32_16, l32_20, l32_24, l32_25, l32_26, l32_31, l32_32, l32_34, l32_35, l32_39, l32_40, l32_44, l32_45, l32_46, l32_47, l32_48, l32_49, l32_57, l32_58, l32_59, l32_63, l32_64, l32_85, l32_90, l32_97, l32_99, l32_100, l32_110, l32_112, l32_122, l32_124, l32_125, l32_255, l32_680, l32_699, l32_700, l32_999, l32_2500, l32_99999, l32_100000, l32_1000000, if_true, if_false, ite_true, ite_false, ce_nm, Option.bind, if_pos, if_neg, a1]; exact d1) (Ev.some ⟨Fr.refl _ _ _, C⟩)
