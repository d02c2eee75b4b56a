-- the class's callBy and listen
theorem el_ge {k : Nat} (h : ce_isEl k) : 48 ≤ k ∧ k ≤ 55 := by rcases h with rfl | rfl <;> omega
theorem net_le {k : Nat} (h : ce_isNet k) : 7 ≤ k ∧ k ≤ 14 := by rcases h with rfl | rfl <;> omega
theorem x_callBy {m : Nat → Nat} {k kn e0 t F : Nat} {h : Hp} (hk : ce_isEl k) (hkn : ce_isNet kn) (ok : OkG m) (cn : CNw h kn m) (he : e0 < 40) (h0 : og m e0 ≠ 0) (ht : t < 100000) : f3_callBy F k kn (nI e0) (nI t) h = some (hp_up (hp_up (hp_up h (k + 1) (e0 / 4) (nI t)) (k + 4) (e0 / 4) (nI e0)) (k + 6) (og m e0 - 1) (nI (t + m (85 + e0)))) := by
  have b1 := el_ge hk
  have b2 := net_le hkn
  have hog := og_le ok.2.2.2.1 he
  obtain ⟨n1, n2, n3, n4, n5⟩ := id cn
  have e5 : h (kn + 5) e0 = nI (og m e0 - 1) := by rw [n4 e0 he, fr_p (by omega)]
  have e6 := n5 e0 he h0
  have m85 := (ok.2.2.2.2 e0 he h0).2.2.2.1
  unfold f3_callBy
  rw [x_nodeOf F e0 h (by omega)]
  show (if ce_in (nI (e0 / 4)) 10 = true then _ else none) = _
  simp (disch := omega) only [up_s, up_k, up_j, mm_neg, mm_def, ni_lt, ni_le, ni_eq, ni_mm, mm_ni, ni_lt_mm, ni_le_mm, mm_lt_ni, mm_le_ni, mm_lt_mm, mm_le_mm, ni_cl, ni_in, nI_add, ni_mul, ni_div, ni_rem, ni_rem2, fr_sub, fr_mm, fr_ge0, fr_lt0, fr_inj, l32_0, l32_1, l32_2, l32_3, l32_4, l32_5, l32_6, l32_7, l32_8, l32_9, l32_10, l32_11, l32_12, l32_13, l32_14, l32_15, l32_16, l32_20, l32_24, l32_25, l32_26, l32_31, l32_32, l32_34, l32_35, l32_39, l32_40, l32_44, l32_45, l32_46, l32_47, l32_48, l32_49, l32_57, l32_58, l32_59, l32_63, l32_64, l32_85, l32_90, l32_97, l32_99, l32_100, l32_110, l32_112, l32_122, l32_124, l32_125, l32_255, l32_680, l32_699, l32_700, l32_999, l32_2500, l32_99999, l32_100000, l32_1000000, if_true, if_false, ite_true, ite_false, ce_nm, Option.bind, if_pos, if_neg, e5, e6]
theorem CE_cl {m wt : Nat → Nat} {s : Es} {t v p k : Nat} {h : Hp} (C : CE h k wt s) : CE (hp_up (hp_up (hp_up h (k + 1) v (nI t)) (k + 4) v (nI (4 * v + p))) (k + 6) (og m (4 * v + p) - 1) (nI (t + m (85 + (4 * v + p))))) k wt (cl (og m) m t v p s) := by
  unfold cl
  refine ⟨fun e he => ?_, fun w hw => ?_⟩
  · by_cases z : e = og m (4 * v + p) - 1
    · rw [z, up_s, u2_s]
      unfold ti
      rw [if_neg (by omega)]
      rfl
    · rw [up_j _ _ _ _ _ z, up_k _ _ _ _ _ _ (by omega), up_k _ _ _ _ _ _ (by omega), u2_j z, u2_k (by omega), u2_k (by omega)]
      exact C.1 e he
  · obtain ⟨m1, m2, m3, m4, m5⟩ := C.2 w hw
    refine ⟨?_, ?_, ?_, ?_, ?_⟩
    · rw [up_k _ _ _ _ _ _ (by omega), up_k _ _ _ _ _ _ (by omega), u2_k (by omega), u2_k (by omega)]
      by_cases z : w = v
      · rw [z, up_s, u2_s]; exact (fr_s t).symm
      · rw [up_j _ _ _ _ _ z, u2_j z]; exact m1
    · rw [up_k _ _ _ _ _ _ (by omega), up_k _ _ _ _ _ _ (by omega), up_k _ _ _ _ _ _ (by omega), u2_k (by omega), u2_k (by omega), u2_k (by omega)]; exact m2
    · rw [up_k _ _ _ _ _ _ (by omega), u2_k (by omega)]
      by_cases z : w = v
      · rw [z, up_s, u2_s]; exact (fr_s _).symm
      · rw [up_j _ _ _ _ _ z, up_k _ _ _ _ _ _ (by omega), u2_j z, u2_k (by omega)]; exact m3
    · rw [up_k _ _ _ _ _ _ (by omega), up_k _ _ _ _ _ _ (by omega), up_k _ _ _ _ _ _ (by omega), u2_k (by omega), u2_k (by omega), u2_k (by omega)]; exact m4
    · rw [up_k _ _ _ _ _ _ (by omega), up_k _ _ _ _ _ _ (by omega), up_k _ _ _ _ _ _ (by omega)]; exact m5
