-- the reference's pairs
def Dr (o : Nat → Nat) (s : Es) (i u : Nat) : Bool := mu o s u && decide (el o s u / 4 < i)
theorem Dr_same {o : Nat → Nat} {s : Es} {i u : Nat} (h : ¬ (mu o s u = true ∧ el o s u / 4 = i)) : Dr o s (i + 1) u = Dr o s i u := by
  unfold Dr
  cases hm : mu o s u with
  | false => rfl
  | true =>
    have : el o s u / 4 ≠ i := fun z => h ⟨hm, z⟩
    congr 1
    apply decide_eq_decide.mpr
    omega
theorem Dr_p {o : Nat → Nat} {s : Es} {i u : Nat} (h1 : mu o s u = true) (h2 : el o s u / 4 < i) : Dr o s i u = true := by
  unfold Dr
  rw [h1]
  simpa using h2
theorem Dr_n {o : Nat → Nat} {s : Es} {i u : Nat} (h2 : ¬ el o s u / 4 < i) : Dr o s i u = false := by
  unfold Dr
  have : decide (el o s u / 4 < i) = false := by simpa using h2
  rw [this]
  simp
theorem x_otherN {m : Nat → Nat} {e F : Nat} {h : Hp} (c : MN h m) (he : e < 40) (h0 : og m e ≠ 0) : f12_otherOf F (nI e) h = some (nI (og m e - 1), h) := by
  rw [x_otherOf c he, fr_p (by omega)]
def MX (h : Hp) (m : Nat → Nat) (s : Es) (d : Nat → Bool) : Prop := (∀ e, e < 40 → h 76 e = ti 100000 (s 0 e)) ∧ ∀ v, v < 10 → h 77 v = fr (s 1 v) ∧ h 78 v = fr (s 2 v) ∧ h 80 v = fr (Rd (og m) m s (d v) v) ∧ h 81 v = nI (Kd (og m) m s (d v) v)
theorem x_meets {m wt : Nat → Nat} {s : Es} {t i0 i F : Nat} {h : Hp} (ok : OkG m) (ob : OkB m) (c : MN h m) (E : EM (og m) m wt t i0 s) (ht : t < 10000) (M : MX h m s (Dr (og m) s i)) (hi : i < m 2) (hF : 1000 ≤ F) :
    Ev (f12_meets F (nI i) h) (fun h' => Fr 80 81 h h' ∧ MX h' m s (Dr (og m) s (i + 1))) := by
  have h2 := ok.2.1
  have g := ok.2.2.2.1
  have same : (∀ u, u < 10 → ¬ (mu (og m) s u = true ∧ el (og m) s u / 4 = i)) → MX h m s (Dr (og m) s (i + 1)) := fun hh => ⟨M.1, fun v hv => by
      rw [Dr_same (hh v hv)]
      exact M.2 v hv⟩
  have m2i := (M.2 i (by omega)).2.1
  have pick : ∀ u, u < 10 → mu (og m) s u = true → el (og m) s u / 4 = i → ∃ e, e < 40 ∧ og m e ≠ 0 ∧ e < og m e - 1 ∧ e / 4 = i ∧ s 2 i = e + 1 ∧ s 2 ((og m e - 1) / 4) = og m e ∧ el (og m) s u = e ∧ (u = i ∨ u = (og m e - 1) / 4) := fun u hu z1 z2 => by
    obtain ⟨e, q1, q2, q3, q4, q5, q6, q7⟩ := mu_el g E hu z1
    rw [q1] at z2
    rw [z2] at q5 q7
    exact ⟨e, q2, q3, q4, z2, q5, q6, q1, q7⟩
  unfold f12_meets
  refine Ev.grd (by simp (disch := omega) only [up_s, up_k, up_j, mm_neg, mm_def, ni_lt, ni_le, ni_eq, ni_mm, mm_ni, ni_lt_mm, ni_le_mm, mm_lt_ni, mm_le_ni, mm_lt_mm, mm_le_mm, ni_cl, ni_in, nI_add, ni_mul, ni_div, ni_rem, ni_rem2, fr_sub, fr_mm, fr_ge0, fr_lt0, fr_inj, l32_0, l32_1, l32_2, l32_3, l32_4, l32_5, l32_6, l32_7, l32_8, l32_9, l32_10, l32_11, l32_12, l32_13, l32_14, l32_15, l32_16, l32_20, l32_24, l32_25, l32_26, l32_31, l32_32, l32_34, l32_35, l32_39, l32_40, l32_44, l32_45, l32_46, l32_47, l32_48, l32_49, l32_57, l32_58, l32_59, l32_63, l32_64, l32_85, l32_90, l32_97, l32_99, l32_100, l32_110, l32_112, l32_122, l32_124, l32_125, l32_255, l32_680, l32_699, l32_700, l32_999, l32_2500, l32_99999, l32_100000, l32_1000000, if_true, if_false, ite_true, ite_false, ce_nm, Option.bind, if_pos, if_neg]) ?_
  rw [ni_cl (by omega), m2i]
  by_cases z : s 2 i = 0
  · rw [z, fr_0]
    refine Ev.pos rfl (Ev.some ⟨Fr.refl _ _ _, same (fun u hu ⟨z1, z2⟩ => ?_)⟩)
    obtain ⟨e, q1, q2, q3, q4, q5, q6⟩ := pick u hu z1 z2
    omega
  · obtain ⟨b1, b2, b3, b4, b5, b6, b7⟩ := E.2.1 i (by omega) (E.s2 (by omega) z)
    obtain ⟨e, he⟩ : ∃ e, s 2 i = e + 1 := ⟨s 2 i - 1, by omega⟩
    rw [he, show e + 1 - 1 = e from rfl] at b4 b5 b6
    have he40 : e < 40 := by omega
    obtain ⟨g1, g2, g3⟩ := g e he40 b5
    have hew := (ok.2.2.2.2 (og m e - 1) (by omega) (by rw [g2]; omega)).1
    rw [he, fr_s]
    refine Ev.neg (by simp (disch := omega) only [up_s, up_k, up_j, mm_neg, mm_def, ni_lt, ni_le, ni_eq, ni_mm, mm_ni, ni_lt_mm, ni_le_mm, mm_lt_ni, mm_le_ni, mm_lt_mm, mm_le_mm, ni_cl, ni_in, nI_add, ni_mul, ni_div, ni_rem, ni_rem2, fr_sub, fr_mm, fr_ge0, fr_lt0, fr_inj, l32_0, l32_1, l32_2, l32_3, l32_4, l32_5, l32_6, l32_7, l32_8, l32_9, l32_10, l32_11, l32_12, l32_13, l32_14, l32_15, l32_16, l32_20, l32_24, l32_25, l32_26, l32_31, l32_32, l32_34, l32_35, l32_39, l32_40, l32_44, l32_45, l32_46, l32_47, l32_48, l32_49, l32_57, l32_58, l32_59, l32_63, l32_64, l32_85, l32_90, l32_97, l32_99, l32_100, l32_110, l32_112, l32_122, l32_124, l32_125, l32_255, l32_680, l32_699, l32_700, l32_999, l32_2500, l32_99999, l32_100000, l32_1000000, if_true, if_false, ite_true, ite_false, ce_nm, Option.bind, if_pos, if_neg]; exact id) (Ev.grd (by simp (disch := omega) only [up_s, up_k, up_j, mm_neg, mm_def, ni_lt, ni_le, ni_eq, ni_mm, mm_ni, ni_lt_mm, ni_le_mm, mm_lt_ni, mm_le_ni, mm_lt_mm, mm_le_mm, ni_cl, ni_in, nI_add, ni_mul, ni_div, ni_rem, ni_rem2, fr_sub, fr_mm, fr_ge0, fr_lt0, fr_inj, l32_0, l32_1, l32_2, l32_3, l32_4, l32_5, l32_6, l32_7, l32_8, l32_9, l32_10, l32_11, l32_12, l32_13, l32_14, l32_15, l32_16, l32_20, l32_24, l32_25, l32_26, l32_31, l32_32, l32_34, l32_35, l32_39, l32_40, l32_44, l32_45, l32_46, l32_47, l32_48, l32_49, l32_57, l32_58, l32_59, l32_63, l32_64, l32_85, l32_90, l32_97, l32_99, l32_100, l32_110, l32_112, l32_122, l32_124, l32_125, l32_255, l32_680, l32_699, l32_700, l32_999, l32_2500, l32_99999, l32_100000, l32_1000000, if_true, if_false, ite_true, ite_false, ce_nm, Option.bind, if_pos, if_neg]) ?_)
    rw [x_otherN c he40 b5]
    refine ev_bs ?_
    dsimp only
    rw [l32_4, ni_div (by omega) (by omega) (by omega)]
    obtain ⟨w, hw⟩ : ∃ w, w = (og m e - 1) / 4 := ⟨_, rfl⟩
    rw [← hw] at g3 hew ⊢
    by_cases hl : i ≤ w
    · refine Ev.pos (by simp (disch := omega) only [up_s, up_k, up_j, mm_neg, mm_def, ni_lt, ni_le, ni_eq, ni_mm, mm_ni, ni_lt_mm, ni_le_mm, mm_lt_ni, mm_le_ni, mm_lt_mm, mm_le_mm, ni_cl, ni_in, nI_add, ni_mul, ni_div, ni_rem, ni_rem2, fr_sub, fr_mm, fr_ge0, fr_lt0, fr_inj, l32_0, l32_1, l32_2, l32_3, l32_4, l32_5, l32_6, l32_7, l32_8, l32_9, l32_10, l32_11, l32_12, l32_13, l32_14, l32_15, l32_16, l32_20, l32_24, l32_25, l32_26, l32_31, l32_32, l32_34, l32_35, l32_39, l32_40, l32_44, l32_45, l32_46, l32_47, l32_48, l32_49, l32_57, l32_58, l32_59, l32_63, l32_64, l32_85, l32_90, l32_97, l32_99, l32_100, l32_110, l32_112, l32_122, l32_124, l32_125, l32_255, l32_680, l32_699, l32_700, l32_999, l32_2500, l32_99999, l32_100000, l32_1000000, if_true, if_false, ite_true, ite_false, ce_nm, Option.bind, if_pos, if_neg]; exact hl) (Ev.grd (by simp (disch := omega) only [up_s, up_k, up_j, mm_neg, mm_def, ni_lt, ni_le, ni_eq, ni_mm, mm_ni, ni_lt_mm, ni_le_mm, mm_lt_ni, mm_le_ni, mm_lt_mm, mm_le_mm, ni_cl, ni_in, nI_add, ni_mul, ni_div, ni_rem, ni_rem2, fr_sub, fr_mm, fr_ge0, fr_lt0, fr_inj, l32_0, l32_1, l32_2, l32_3, l32_4, l32_5, l32_6, l32_7, l32_8, l32_9, l32_10, l32_11, l32_12, l32_13, l32_14, l32_15, l32_16, l32_20, l32_24, l32_25, l32_26, l32_31, l32_32, l32_34, l32_35, l32_39, l32_40, l32_44, l32_45, l32_46, l32_47, l32_48, l32_49, l32_57, l32_58, l32_59, l32_63, l32_64, l32_85, l32_90, l32_97, l32_99, l32_100, l32_110, l32_112, l32_122, l32_124, l32_125, l32_255, l32_680, l32_699, l32_700, l32_999, l32_2500, l32_99999, l32_100000, l32_1000000, if_true, if_false, ite_true, ite_false, ce_nm, Option.bind, if_pos, if_neg]) ?_)
      rw [m2i, he, fr_s, x_otherN c he40 b5]
      refine ev_bs ?_
      dsimp only
      rw [ni_div (by omega) (by omega) (by omega), ← hw]
      refine Ev.grd (by simp (disch := omega) only [up_s, up_k, up_j, mm_neg, mm_def, ni_lt, ni_le, ni_eq, ni_mm, mm_ni, ni_lt_mm, ni_le_mm, mm_lt_ni, mm_le_ni, mm_lt_mm, mm_le_mm, ni_cl, ni_in, nI_add, ni_mul, ni_div, ni_rem, ni_rem2, fr_sub, fr_mm, fr_ge0, fr_lt0, fr_inj, l32_0, l32_1, l32_2, l32_3, l32_4, l32_5, l32_6, l32_7, l32_8, l32_9, l32_10, l32_11, l32_12, l32_13, l32_14, l32_15, l32_16, l32_20, l32_24, l32_25, l32_26, l32_31, l32_32, l32_34, l32_35, l32_39, l32_40, l32_44, l32_45, l32_46, l32_47, l32_48, l32_49, l32_57, l32_58, l32_59, l32_63, l32_64, l32_85, l32_90, l32_97, l32_99, l32_100, l32_110, l32_112, l32_122, l32_124, l32_125, l32_255, l32_680, l32_699, l32_700, l32_999, l32_2500, l32_99999, l32_100000, l32_1000000, if_true, if_false, ite_true, ite_false, ce_nm, Option.bind, if_pos, if_neg]) (Ev.grd (by simp (disch := omega) only [up_s, up_k, up_j, mm_neg, mm_def, ni_lt, ni_le, ni_eq, ni_mm, mm_ni, ni_lt_mm, ni_le_mm, mm_lt_ni, mm_le_ni, mm_lt_mm, mm_le_mm, ni_cl, ni_in, nI_add, ni_mul, ni_div, ni_rem, ni_rem2, fr_sub, fr_mm, fr_ge0, fr_lt0, fr_inj, l32_0, l32_1, l32_2, l32_3, l32_4, l32_5, l32_6, l32_7, l32_8, l32_9, l32_10, l32_11, l32_12, l32_13, l32_14, l32_15, l32_16, l32_20, l32_24, l32_25, l32_26, l32_31, l32_32, l32_34, l32_35, l32_39, l32_40, l32_44, l32_45, l32_46, l32_47, l32_48, l32_49, l32_57, l32_58, l32_59, l32_63, l32_64, l32_85, l32_90, l32_97, l32_99, l32_100, l32_110, l32_112, l32_122, l32_124, l32_125, l32_255, l32_680, l32_699, l32_700, l32_999, l32_2500, l32_99999, l32_100000, l32_1000000, if_true, if_false, ite_true, ite_false, ce_nm, Option.bind, if_pos, if_neg]) ?_)
      rw [m2i, he, fr_s, x_otherN c he40 b5]
      refine ev_bs ?_
      dsimp only
      have m2w := (M.2 w (by omega)).2.1
      have s2w : s 2 w ≤ 40 := by
        by_cases y : s 2 w = 0
        · omega
        · exact (E.2.1 w (by omega) (E.s2 (by omega) y)).2.2.1
      have hlt : e < og m e - 1 := by omega
      rw [ni_cl (by omega)]
      by_cases y : s 2 w = og m e
      · have q8 : h 78 i = nI e := by rw [m2i, he, fr_s]
        have q9 : h 78 w = nI (og m e - 1) := by rw [m2w, y, fr_p (by omega)]
        refine Ev.pos q9 (Ev.grd (by simp (disch := omega) only [up_s, up_k, up_j, mm_neg, mm_def, ni_lt, ni_le, ni_eq, ni_mm, mm_ni, ni_lt_mm, ni_le_mm, mm_lt_ni, mm_le_ni, mm_lt_mm, mm_le_mm, ni_cl, ni_in, nI_add, ni_mul, ni_div, ni_rem, ni_rem2, fr_sub, fr_mm, fr_ge0, fr_lt0, fr_inj, l32_0, l32_1, l32_2, l32_3, l32_4, l32_5, l32_6, l32_7, l32_8, l32_9, l32_10, l32_11, l32_12, l32_13, l32_14, l32_15, l32_16, l32_20, l32_24, l32_25, l32_26, l32_31, l32_32, l32_34, l32_35, l32_39, l32_40, l32_44, l32_45, l32_46, l32_47, l32_48, l32_49, l32_57, l32_58, l32_59, l32_63, l32_64, l32_85, l32_90, l32_97, l32_99, l32_100, l32_110, l32_112, l32_122, l32_124, l32_125, l32_255, l32_680, l32_699, l32_700, l32_999, l32_2500, l32_99999, l32_100000, l32_1000000, if_true, if_false, ite_true, ite_false, ce_nm, Option.bind, if_pos, if_neg]) ?_)
        simp only [q8, q9]
        have e85 : (85 : Int32) + nI e = nI (85 + e) := by rw [l32_85, nI_add]
        rw [e85]
        refine Ev.grd (by simp (disch := omega) only [up_s, up_k, up_j, mm_neg, mm_def, ni_lt, ni_le, ni_eq, ni_mm, mm_ni, ni_lt_mm, ni_le_mm, mm_lt_ni, mm_le_ni, mm_lt_mm, mm_le_mm, ni_cl, ni_in, nI_add, ni_mul, ni_div, ni_rem, ni_rem2, fr_sub, fr_mm, fr_ge0, fr_lt0, fr_inj, l32_0, l32_1, l32_2, l32_3, l32_4, l32_5, l32_6, l32_7, l32_8, l32_9, l32_10, l32_11, l32_12, l32_13, l32_14, l32_15, l32_16, l32_20, l32_24, l32_25, l32_26, l32_31, l32_32, l32_34, l32_35, l32_39, l32_40, l32_44, l32_45, l32_46, l32_47, l32_48, l32_49, l32_57, l32_58, l32_59, l32_63, l32_64, l32_85, l32_90, l32_97, l32_99, l32_100, l32_110, l32_112, l32_122, l32_124, l32_125, l32_255, l32_680, l32_699, l32_700, l32_999, l32_2500, l32_99999, l32_100000, l32_1000000, if_true, if_false, ite_true, ite_false, ce_nm, Option.bind, if_pos, if_neg]) (Ev.grd (by simp (disch := omega) only [up_s, up_k, up_j, mm_neg, mm_def, ni_lt, ni_le, ni_eq, ni_mm, mm_ni, ni_lt_mm, ni_le_mm, mm_lt_ni, mm_le_ni, mm_lt_mm, mm_le_mm, ni_cl, ni_in, nI_add, ni_mul, ni_div, ni_rem, ni_rem2, fr_sub, fr_mm, fr_ge0, fr_lt0, fr_inj, l32_0, l32_1, l32_2, l32_3, l32_4, l32_5, l32_6, l32_7, l32_8, l32_9, l32_10, l32_11, l32_12, l32_13, l32_14, l32_15, l32_16, l32_20, l32_24, l32_25, l32_26, l32_31, l32_32, l32_34, l32_35, l32_39, l32_40, l32_44, l32_45, l32_46, l32_47, l32_48, l32_49, l32_57, l32_58, l32_59, l32_63, l32_64, l32_85, l32_90, l32_97, l32_99, l32_100, l32_110, l32_112, l32_122, l32_124, l32_125, l32_255, l32_680, l32_699, l32_700, l32_999, l32_2500, l32_99999, l32_100000, l32_1000000, if_true, if_false, ite_true, ite_false, ce_nm, Option.bind, if_pos, if_neg]) (Ev.grd (by simp (disch := omega) only [up_s, up_k, up_j, mm_neg, mm_def, ni_lt, ni_le, ni_eq, ni_mm, mm_ni, ni_lt_mm, ni_le_mm, mm_lt_ni, mm_le_ni, mm_lt_mm, mm_le_mm, ni_cl, ni_in, nI_add, ni_mul, ni_div, ni_rem, ni_rem2, fr_sub, fr_mm, fr_ge0, fr_lt0, fr_inj, l32_0, l32_1, l32_2, l32_3, l32_4, l32_5, l32_6, l32_7, l32_8, l32_9, l32_10, l32_11, l32_12, l32_13, l32_14, l32_15, l32_16, l32_20, l32_24, l32_25, l32_26, l32_31, l32_32, l32_34, l32_35, l32_39, l32_40, l32_44, l32_45, l32_46, l32_47, l32_48, l32_49, l32_57, l32_58, l32_59, l32_63, l32_64, l32_85, l32_90, l32_97, l32_99, l32_100, l32_110, l32_112, l32_122, l32_124, l32_125, l32_255, l32_680, l32_699, l32_700, l32_999, l32_2500, l32_99999, l32_100000, l32_1000000, if_true, if_false, ite_true, ite_false, ce_nm, Option.bind, if_pos, if_neg]) (Ev.grd (by simp (disch := omega) only [up_s, up_k, up_j, mm_neg, mm_def, ni_lt, ni_le, ni_eq, ni_mm, mm_ni, ni_lt_mm, ni_le_mm, mm_lt_ni, mm_le_ni, mm_lt_mm, mm_le_mm, ni_cl, ni_in, nI_add, ni_mul, ni_div, ni_rem, ni_rem2, fr_sub, fr_mm, fr_ge0, fr_lt0, fr_inj, l32_0, l32_1, l32_2, l32_3, l32_4, l32_5, l32_6, l32_7, l32_8, l32_9, l32_10, l32_11, l32_12, l32_13, l32_14, l32_15, l32_16, l32_20, l32_24, l32_25, l32_26, l32_31, l32_32, l32_34, l32_35, l32_39, l32_40, l32_44, l32_45, l32_46, l32_47, l32_48, l32_49, l32_57, l32_58, l32_59, l32_63, l32_64, l32_85, l32_90, l32_97, l32_99, l32_100, l32_110, l32_112, l32_122, l32_124, l32_125, l32_255, l32_680, l32_699, l32_700, l32_999, l32_2500, l32_99999, l32_100000, l32_1000000, if_true, if_false, ite_true, ite_false, ce_nm, Option.bind, if_pos, if_neg]) (Ev.grd (by simp (disch := omega) only [up_s, up_k, up_j, mm_neg, mm_def, ni_lt, ni_le, ni_eq, ni_mm, mm_ni, ni_lt_mm, ni_le_mm, mm_lt_ni, mm_le_ni, mm_lt_mm, mm_le_mm, ni_cl, ni_in, nI_add, ni_mul, ni_div, ni_rem, ni_rem2, fr_sub, fr_mm, fr_ge0, fr_lt0, fr_inj, l32_0, l32_1, l32_2, l32_3, l32_4, l32_5, l32_6, l32_7, l32_8, l32_9, l32_10, l32_11, l32_12, l32_13, l32_14, l32_15, l32_16, l32_20, l32_24, l32_25, l32_26, l32_31, l32_32, l32_34, l32_35, l32_39, l32_40, l32_44, l32_45, l32_46, l32_47, l32_48, l32_49, l32_57, l32_58, l32_59, l32_63, l32_64, l32_85, l32_90, l32_97, l32_99, l32_100, l32_110, l32_112, l32_122, l32_124, l32_125, l32_255, l32_680, l32_699, l32_700, l32_999, l32_2500, l32_99999, l32_100000, l32_1000000, if_true, if_false, ite_true, ite_false, ce_nm, Option.bind, if_pos, if_neg]) ?_))))
        have y1 : s 2 (e / 4) = e + 1 := by rw [b4]; exact he
        have y2 : s 2 ((og m e - 1) / 4) = og m e := by rw [← hw]; exact y
        obtain ⟨p1, p2, p3, p4⟩ := el_mu g he40 b5 hlt y1 y2
        rw [b4] at p1 p2
        rw [← hw] at p3 p4
        have hs1 : s 0 (og m e - 1) ≠ 0 := by omega
        have hs0 : s 0 e ≠ 0 := by
          have := (E.2.1 w (by omega) (E.s2 (by omega) (by omega))).2.2.2.2.2.1
          rw [y, g2, show e + 1 - 1 = e from rfl] at this
          have q := E.s2 (v := w) (by omega) (by omega)
          omega
        have t0 := E.2.2.2.2.2.2.1 e he40
        have t1 := E.2.2.2.2.2.2.1 (og m e - 1) (by omega)
        have q6 : h 76 e = nI (s 0 e - 1) := by rw [M.1 e he40, ti_val, if_neg hs0]
        have q7 : h 76 (og m e - 1) = nI (s 0 (og m e - 1) - 1) := by rw [M.1 _ (by omega), ti_val, if_neg hs1]
        rw [ni_cl (by omega), ni_cl (by omega), ni_cl (by omega), c _ (by omega)]
        simp only [q6, q7]
        rw [ni_max (by omega) (by omega)]
        refine Ev.bind (x_meets_loop h2 ob c hi hew hF) (fun o ho => ?_)
        have hCW : cw (bt m i) (bt m w) (m (85 + e)) 10 0 (max (s 0 e - 1) (s 0 (og m e - 1) - 1)) = CWe (og m) m s e := by unfold CWe; rw [b4, ← hw]
        rw [hCW] at ho
        have hwn : (if (CWe (og m) m s e).2.2 = 1 then nI i else nI w) = nI (wno (og m) m s e) := by
          unfold wno
          rw [b4, ← hw]
          by_cases x : (CWe (og m) m s e).2.2 = 1
          · rw [if_pos x, if_pos x]
          · rw [if_neg x, if_neg x]
        have wl : wno (og m) m s e = i ∨ wno (og m) m s e = w := by
          unfold wno
          rw [b4, ← hw]
          by_cases x : (CWe (og m) m s e).2.2 = 1
          · rw [if_pos x]; exact Or.inl rfl
          · rw [if_neg x]; exact Or.inr rfl
        rw [hwn] at ho
        subst ho
        dsimp only
        refine Ev.grd (by simp (disch := omega) only [up_s, up_k, up_j, mm_neg, mm_def, ni_lt, ni_le, ni_eq, ni_mm, mm_ni, ni_lt_mm, ni_le_mm, mm_lt_ni, mm_le_ni, mm_lt_mm, mm_le_mm, ni_cl, ni_in, nI_add, ni_mul, ni_div, ni_rem, ni_rem2, fr_sub, fr_mm, fr_ge0, fr_lt0, fr_inj, l32_0, l32_1, l32_2, l32_3, l32_4, l32_5, l32_6, l32_7, l32_8, l32_9, l32_10, l32_11, l32_12, l32_13, l32_14, l32_15, l32_16, l32_20, l32_24, l32_25, l32_26, l32_31, l32_32, l32_34, l32_35, l32_39, l32_40, l32_44, l32_45, l32_46, l32_47, l32_48, l32_49, l32_57, l32_58, l32_59, l32_63, l32_64, l32_85, l32_90, l32_97, l32_99, l32_100, l32_110, l32_112, l32_122, l32_124, l32_125, l32_255, l32_680, l32_699, l32_700, l32_999, l32_2500, l32_99999, l32_100000, l32_1000000, if_true, if_false, ite_true, ite_false, ce_nm, Option.bind, if_pos, if_neg]) (Ev.nm (Ev.grd (by simp (disch := omega) only [up_s, up_k, up_j, mm_neg, mm_def, ni_lt, ni_le, ni_eq, ni_mm, mm_ni, ni_lt_mm, ni_le_mm, mm_lt_ni, mm_le_ni, mm_lt_mm, mm_le_mm, ni_cl, ni_in, nI_add, ni_mul, ni_div, ni_rem, ni_rem2, fr_sub, fr_mm, fr_ge0, fr_lt0, fr_inj, l32_0, l32_1, l32_2, l32_3, l32_4, l32_5, l32_6, l32_7, l32_8, l32_9, l32_10, l32_11, l32_12, l32_13, l32_14, l32_15, l32_16, l32_20, l32_24, l32_25, l32_26, l32_31, l32_32, l32_34, l32_35, l32_39, l32_40, l32_44, l32_45, l32_46, l32_47, l32_48, l32_49, l32_57, l32_58, l32_59, l32_63, l32_64, l32_85, l32_90, l32_97, l32_99, l32_100, l32_110, l32_112, l32_122, l32_124, l32_125, l32_255, l32_680, l32_699, l32_700, l32_999, l32_2500, l32_99999, l32_100000, l32_1000000, if_true, if_false, ite_true, ite_false, ce_nm, Option.bind, if_pos, if_neg]) (Ev.nm (Ev.grd (by simp (disch := omega) only [up_s, up_k, up_j, mm_neg, mm_def, ni_lt, ni_le, ni_eq, ni_mm, mm_ni, ni_lt_mm, ni_le_mm, mm_lt_ni, mm_le_ni, mm_lt_mm, mm_le_mm, ni_cl, ni_in, nI_add, ni_mul, ni_div, ni_rem, ni_rem2, fr_sub, fr_mm, fr_ge0, fr_lt0, fr_inj, l32_0, l32_1, l32_2, l32_3, l32_4, l32_5, l32_6, l32_7, l32_8, l32_9, l32_10, l32_11, l32_12, l32_13, l32_14, l32_15, l32_16, l32_20, l32_24, l32_25, l32_26, l32_31, l32_32, l32_34, l32_35, l32_39, l32_40, l32_44, l32_45, l32_46, l32_47, l32_48, l32_49, l32_57, l32_58, l32_59, l32_63, l32_64, l32_85, l32_90, l32_97, l32_99, l32_100, l32_110, l32_112, l32_122, l32_124, l32_125, l32_255, l32_680, l32_699, l32_700, l32_999, l32_2500, l32_99999, l32_100000, l32_1000000, if_true, if_false, ite_true, ite_false, ce_nm, Option.bind, if_pos, if_neg]) (Ev.nm (Ev.some ⟨?_, fun q hq => ?_, fun v hv => ?_⟩))))))
        · exact (((up_fr _ _ _ _).wide (by omega) (by omega)).trans ((up_fr _ _ _ _).wide (by omega) (by omega))).trans ((up_fr _ _ _ _).wide (by omega) (by omega))
        · rw [up_k _ _ _ _ _ _ (by omega), up_k _ _ _ _ _ _ (by omega), up_k _ _ _ _ _ _ (by omega)]
          exact M.1 q hq
        · obtain ⟨r1, r2, r3, r4⟩ := M.2 v hv
          rw [ni_cl (by omega)]
          refine ⟨?_, ?_, ?_, ?_⟩
          · rw [up_k _ _ _ _ _ _ (by omega), up_k _ _ _ _ _ _ (by omega), up_k _ _ _ _ _ _ (by omega)]; exact r1
          · rw [up_k _ _ _ _ _ _ (by omega), up_k _ _ _ _ _ _ (by omega), up_k _ _ _ _ _ _ (by omega)]; exact r2
          · rw [up_k _ _ _ _ _ _ (by omega), up_k _ _ _ _ _ _ (by omega)]
            by_cases x : v = i ∨ v = w
            · have hd : Dr (og m) s (i + 1) v = true := by
                rcases x with x | x
                · rw [x]; exact Dr_p p1 (by rw [p2]; omega)
                · rw [x]; exact Dr_p p3 (by rw [p4]; omega)
              have hd0 : Dr (og m) s i v = false := by
                rcases x with x | x
                · rw [x]; exact Dr_n (by rw [p2]; omega)
                · rw [x]; exact Dr_n (by rw [p4]; omega)
              have hel : el (og m) s v = e := by
                rcases x with x | x
                · rw [x]; exact p2
                · rw [x]; exact p4
              rw [hd0, Rd_f] at r3
              rw [hd]
              unfold Rd
              rw [hel]
              by_cases q : v = wno (og m) m s e
              · rw [← q, up_s, if_pos ⟨rfl, rfl⟩, fr_s]
              · rw [up_j _ _ _ _ _ q, if_neg (fun z => q z.2.symm)]; exact r3
            · have q : ¬ v = wno (og m) m s e := by omega
              have hs : Dr (og m) s (i + 1) v = Dr (og m) s i v := Dr_same (fun ⟨z1, z2⟩ => by
                obtain ⟨e', q1, q2, q3, q4, q5, q6, q7, q8⟩ := pick v hv z1 z2
                have : e' = e := by omega
                rw [this, ← hw] at q8
                exact x q8)
              rw [up_j _ _ _ _ _ q, hs]
              exact r3
          · by_cases x : v = w
            · have hd : Dr (og m) s (i + 1) v = true := by rw [x]; exact Dr_p p3 (by rw [p4]; omega)
              rw [hd, x, up_s]
              unfold Kd
              rw [if_pos rfl, p4]
            · rw [up_j _ _ _ _ _ x]
              by_cases x2 : v = i
              · have hd : Dr (og m) s (i + 1) v = true := by rw [x2]; exact Dr_p p1 (by rw [p2]; omega)
                rw [hd, x2, up_s]
                unfold Kd
                rw [if_pos rfl, p2]
              · have hs : Dr (og m) s (i + 1) v = Dr (og m) s i v := Dr_same (fun ⟨z1, z2⟩ => by
                  obtain ⟨e', q1, q2, q3, q4, q5, q6, q7, q8⟩ := pick v hv z1 z2
                  have : e' = e := by omega
                  rw [this, ← hw] at q8
                  omega)
                rw [up_j _ _ _ _ _ x2, up_k _ _ _ _ _ _ (by omega), hs]
                exact r4
      · refine Ev.neg ?_ (Ev.some ⟨Fr.refl _ _ _, same (fun u hu ⟨z1, z2⟩ => ?_)⟩)
        · rw [m2w, ← fr_p (by omega : 0 < og m e), fr_inj (by omega) (by omega)]; exact y
        · obtain ⟨e', q1, q2, q3, q4, q5, q6, q7, q8⟩ := pick u hu z1 z2
          have : e' = e := by omega
          rw [this, ← hw] at q6
          exact y q6
    · refine Ev.neg (by simp (disch := omega) only [up_s, up_k, up_j, mm_neg, mm_def, ni_lt, ni_le, ni_eq, ni_mm, mm_ni, ni_lt_mm, ni_le_mm, mm_lt_ni, mm_le_ni, mm_lt_mm, mm_le_mm, ni_cl, ni_in, nI_add, ni_mul, ni_div, ni_rem, ni_rem2, fr_sub, fr_mm, fr_ge0, fr_lt0, fr_inj, l32_0, l32_1, l32_2, l32_3, l32_4, l32_5, l32_6, l32_7, l32_8, l32_9, l32_10, l32_11, l32_12, l32_13, l32_14, l32_15, l32_16, l32_20, l32_24, l32_25, l32_26, l32_31, l32_32, l32_34, l32_35, l32_39, l32_40, l32_44, l32_45, l32_46, l32_47, l32_48, l32_49, l32_57, l32_58, l32_59, l32_63, l32_64, l32_85, l32_90, l32_97, l32_99, l32_100, l32_110, l32_112, l32_122, l32_124, l32_125, l32_255, l32_680, l32_699, l32_700, l32_999, l32_2500, l32_99999, l32_100000, l32_1000000, if_true, if_false, ite_true, ite_false, ce_nm, Option.bind, if_pos, if_neg]; exact hl) (Ev.some ⟨Fr.refl _ _ _, same (fun u hu ⟨z1, z2⟩ => ?_)⟩)
      obtain ⟨e', q1, q2, q3, q4, q5, q6, q7, q8⟩ := pick u hu z1 z2
      have : e' = e := by omega
      rw [this] at q3
      omega
/-- the reference's election is through -/
def MF (h : Hp) (m : Nat → Nat) (s : Es) : Prop := ∀ v, v < m 2 → h 77 v = fr (s 1 v) ∧ h 80 v = fr (Rd (og m) m s (mu (og m) s v) v) ∧ h 81 v = nI (Kd (og m) m s (mu (og m) s v) v) ∧ h 82 v = fr (Pd (og m) m s (mu (og m) s v) v)
theorem x_runs {m : Nat → Nat} {F : Nat} {h : Hp} (ok : OkG m) (ob : OkB m) (hw : m 0 ≤ 20) (hf : ∀ v, v < m 2 → m (15 + v) ≤ 1) (c : MN h m) (hF : 1000 ≤ F) :
    Ev (f12_runs F h) (fun h' => Fr 76 82 h h' ∧ MF h' m (rM (og m) m (wtm m) (m 2) 700)) := by
  have h2 := ok.2.1
  have g := ok.2.2.2.1
  have E := EM_e (wt := wtm m) ok 699
  unfold f12_runs
  obtain ⟨h1, e1, f1, M1, k1⟩ := x_fresh (F := F) (h := h) hF
  have bb : ∀ {α β γ : Type} (x : Option α) (f : α → Option β) (k : β → Option γ), Option.bind x (fun a => Option.bind (f a) k) = Option.bind (Option.bind x f) k := fun x f k => by cases x <;> rfl
  rw [bb, e1]
  refine ev_bs ?_
  refine Ev.bind (x_ticks ok hw hf (c.fr f1 (by omega)) M1 hF) (fun h3 hh => ?_)
  have f3 := f1.trans (hh.1.wide (by omega) (by omega))
  obtain ⟨s, hs⟩ : ∃ s, s = rM (og m) m (wtm m) (m 2) 700 := ⟨_, rfl⟩
  have M3 := hh.2
  have k3 : ∀ v, v < 10 → h3 81 v = nI 0 := fun v hv => by rw [hh.1 81 (by omega)]; exact k1 v hv
  have E' : EM (og m) m (wtm m) 699 (m 2) s := by rw [hs]; exact E
  rw [← hs] at M3 ⊢
  refine Ev.bind (P := fun h' => Fr 80 81 h3 h' ∧ MX h' m s (mu (og m) s)) ?_ (fun h4 hh4 => ?_)
  · refine Ev.it (I := fun i st => st.1 = nI i ∧ Fr 80 81 h3 st.2 ∧ MX st.2 m s (Dr (og m) s i)) _ (m 2) ?_ F 0 _ (by omega) (by omega) ⟨rfl, Fr.refl _ _ _, M3.1, fun v hv => ?_⟩
    rotate_left
    · obtain ⟨q1, q2, q3, q4⟩ := M3.2 v hv
      have : Dr (og m) s 0 v = false := Dr_n (by omega)
      rw [this, Rd_f, Kd_f]
      exact ⟨q1, q2, q4, k3 v hv⟩
    rintro i ⟨x, h4⟩ hi hI
    obtain ⟨rfl, f4, M4⟩ : x = nI i ∧ Fr 80 81 h3 h4 ∧ MX h4 m s (Dr (og m) s i) := hI
    show Ev (f12_runs_b132 F (nI i) h4) _
    have c4 := (c.fr f3 (by omega)).fr f4 (by omega)
    have c2 : h4 69 2 = nI (m 2) := c4 2 (by omega)
    unfold f12_runs_b132
    by_cases hin : m 2 ≤ i
    · refine Ev.pos (by simp (disch := omega) only [up_s, up_k, up_j, mm_neg, mm_def, ni_lt, ni_le, ni_eq, ni_mm, mm_ni, ni_lt_mm, ni_le_mm, mm_lt_ni, mm_le_ni, mm_lt_mm, mm_le_mm, ni_cl, ni_in, nI_add, ni_mul, ni_div, ni_rem, ni_rem2, fr_sub, fr_mm, fr_ge0, fr_lt0, fr_inj, l32_0, l32_1, l32_2, l32_3, l32_4, l32_5, l32_6, l32_7, l32_8, l32_9, l32_10, l32_11, l32_12, l32_13, l32_14, l32_15, l32_16, l32_20, l32_24, l32_25, l32_26, l32_31, l32_32, l32_34, l32_35, l32_39, l32_40, l32_44, l32_45, l32_46, l32_47, l32_48, l32_49, l32_57, l32_58, l32_59, l32_63, l32_64, l32_85, l32_90, l32_97, l32_99, l32_100, l32_110, l32_112, l32_122, l32_124, l32_125, l32_255, l32_680, l32_699, l32_700, l32_999, l32_2500, l32_99999, l32_100000, l32_1000000, if_true, if_false, ite_true, ite_false, ce_nm, Option.bind, if_pos, if_neg, c2]; exact hin) (Ev.some ⟨f4, M4.1, fun v hv => ?_⟩)
      have : i = m 2 := by omega
      subst this
      have e1 : Dr (og m) s (m 2) v = mu (og m) s v := by
        cases hm : mu (og m) s v with
        | false => unfold Dr; rw [hm]; rfl
        | true =>
          obtain ⟨q, q1, q2, q3, q4⟩ := mu_el g E' hv hm
          have := (ok.2.2.2.2 q q2 q3).1
          exact Dr_p hm (by omega)
      have := M4.2 v hv
      rw [e1] at this
      exact this
    · refine Ev.neg (by simp (disch := omega) only [up_s, up_k, up_j, mm_neg, mm_def, ni_lt, ni_le, ni_eq, ni_mm, mm_ni, ni_lt_mm, ni_le_mm, mm_lt_ni, mm_le_ni, mm_lt_mm, mm_le_mm, ni_cl, ni_in, nI_add, ni_mul, ni_div, ni_rem, ni_rem2, fr_sub, fr_mm, fr_ge0, fr_lt0, fr_inj, l32_0, l32_1, l32_2, l32_3, l32_4, l32_5, l32_6, l32_7, l32_8, l32_9, l32_10, l32_11, l32_12, l32_13, l32_14, l32_15, l32_16, l32_20, l32_24, l32_25, l32_26, l32_31, l32_32, l32_34, l32_35, l32_39, l32_40, l32_44, l32_45, l32_46, l32_47, l32_48, l32_49, l32_57, l32_58, l32_59, l32_63, l32_64, l32_85, l32_90, l32_97, l32_99, l32_100, l32_110, l32_112, l32_122, l32_124, l32_125, l32_255, l32_680, l32_699, l32_700, l32_999, l32_2500, l32_99999, l32_100000, l32_1000000, if_true, if_false, ite_true, ite_false, ce_nm, Option.bind, if_pos, if_neg, c2]; exact hin) (Ev.bind (x_meets ok ob c4 E' (by omega) M4 (by omega) hF) (fun h5 hh5 => Ev.some ⟨by omega, nI_1 i, f4.trans hh5.1, hh5.2⟩))
  · have f4 := f3.trans (hh4.1.wide (by omega) (by omega))
    obtain ⟨-, M4⟩ := hh4.2
    refine Ev.bind (P := fun h' => Fr 82 82 h4 h' ∧ ∀ v, v < m 2 → h' 82 v = fr (Pd (og m) m s (mu (og m) s v) v)) ?_ (fun h5 hh5 => Ev.some ⟨(f4.wide (by omega) (by omega)).trans (hh5.1.wide (by omega) (by omega)), fun v hv => ?_⟩)
    · refine Ev.it (I := fun i st => st.1 = nI i ∧ Fr 82 82 h4 st.2 ∧ ∀ v, v < i → st.2 82 v = fr (Pd (og m) m s (mu (og m) s v) v)) _ (m 2) ?_ F 0 _ (by omega) (by omega) ⟨rfl, Fr.refl _ _ _, fun v hv => absurd hv (by omega)⟩
      rintro i ⟨x, h5⟩ hi hI
      obtain ⟨rfl, f5, P5⟩ : x = nI i ∧ Fr 82 82 h4 h5 ∧ ∀ v, v < i → h5 82 v = fr (Pd (og m) m s (mu (og m) s v) v) := hI
      show Ev (f12_runs_b155 F (nI i) h5) _
      have c5 := (c.fr f4 (by omega)).fr f5 (by omega)
      have c2 : h5 69 2 = nI (m 2) := c5 2 (by omega)
      unfold f12_runs_b155
      by_cases hin : m 2 ≤ i
      · refine Ev.pos (by simp (disch := omega) only [up_s, up_k, up_j, mm_neg, mm_def, ni_lt, ni_le, ni_eq, ni_mm, mm_ni, ni_lt_mm, ni_le_mm, mm_lt_ni, mm_le_ni, mm_lt_mm, mm_le_mm, ni_cl, ni_in, nI_add, ni_mul, ni_div, ni_rem, ni_rem2, fr_sub, fr_mm, fr_ge0, fr_lt0, fr_inj, l32_0, l32_1, l32_2, l32_3, l32_4, l32_5, l32_6, l32_7, l32_8, l32_9, l32_10, l32_11, l32_12, l32_13, l32_14, l32_15, l32_16, l32_20, l32_24, l32_25, l32_26, l32_31, l32_32, l32_34, l32_35, l32_39, l32_40, l32_44, l32_45, l32_46, l32_47, l32_48, l32_49, l32_57, l32_58, l32_59, l32_63, l32_64, l32_85, l32_90, l32_97, l32_99, l32_100, l32_110, l32_112, l32_122, l32_124, l32_125, l32_255, l32_680, l32_699, l32_700, l32_999, l32_2500, l32_99999, l32_100000, l32_1000000, if_true, if_false, ite_true, ite_false, ce_nm, Option.bind, if_pos, if_neg, c2]; exact hin) (Ev.some ⟨f5, fun v hv => P5 v (by omega)⟩)
      · obtain ⟨r1, r2, r3, r4⟩ := M4 i (by omega)
        rw [← f5 78 (by omega)] at r2
        rw [← f5 80 (by omega)] at r3
        have b4 := E'.b4 (v := i) (by omega)
        refine Ev.neg (by simp (disch := omega) only [up_s, up_k, up_j, mm_neg, mm_def, ni_lt, ni_le, ni_eq, ni_mm, mm_ni, ni_lt_mm, ni_le_mm, mm_lt_ni, mm_le_ni, mm_lt_mm, mm_le_mm, ni_cl, ni_in, nI_add, ni_mul, ni_div, ni_rem, ni_rem2, fr_sub, fr_mm, fr_ge0, fr_lt0, fr_inj, l32_0, l32_1, l32_2, l32_3, l32_4, l32_5, l32_6, l32_7, l32_8, l32_9, l32_10, l32_11, l32_12, l32_13, l32_14, l32_15, l32_16, l32_20, l32_24, l32_25, l32_26, l32_31, l32_32, l32_34, l32_35, l32_39, l32_40, l32_44, l32_45, l32_46, l32_47, l32_48, l32_49, l32_57, l32_58, l32_59, l32_63, l32_64, l32_85, l32_90, l32_97, l32_99, l32_100, l32_110, l32_112, l32_122, l32_124, l32_125, l32_255, l32_680, l32_699, l32_700, l32_999, l32_2500, l32_99999, l32_100000, l32_1000000, if_true, if_false, ite_true, ite_false, ce_nm, Option.bind, if_pos, if_neg, c2]; exact hin) (Ev.grd (by simp (disch := omega) only [up_s, up_k, up_j, mm_neg, mm_def, ni_lt, ni_le, ni_eq, ni_mm, mm_ni, ni_lt_mm, ni_le_mm, mm_lt_ni, mm_le_ni, mm_lt_mm, mm_le_mm, ni_cl, ni_in, nI_add, ni_mul, ni_div, ni_rem, ni_rem2, fr_sub, fr_mm, fr_ge0, fr_lt0, fr_inj, l32_0, l32_1, l32_2, l32_3, l32_4, l32_5, l32_6, l32_7, l32_8, l32_9, l32_10, l32_11, l32_12, l32_13, l32_14, l32_15, l32_16, l32_20, l32_24, l32_25, l32_26, l32_31, l32_32, l32_34, l32_35, l32_39, l32_40, l32_44, l32_45, l32_46, l32_47, l32_48, l32_49, l32_57, l32_58, l32_59, l32_63, l32_64, l32_85, l32_90, l32_97, l32_99, l32_100, l32_110, l32_112, l32_122, l32_124, l32_125, l32_255, l32_680, l32_699, l32_700, l32_999, l32_2500, l32_99999, l32_100000, l32_1000000, if_true, if_false, ite_true, ite_false, ce_nm, Option.bind, if_pos, if_neg]) ?_)
        rw [ni_cl (by omega), r3, r2]
        have fin : ∀ y : Int32, y = fr (Pd (og m) m s (mu (og m) s i) i) → ∀ v, v < i + 1 → hp_up h5 82 i y 82 v = fr (Pd (og m) m s (mu (og m) s v) v) := fun y hy v hv => by
          by_cases q : v = i
          · rw [q, up_s]; exact hy
          · rw [up_j _ _ _ _ _ q]; exact P5 v (by omega)
        by_cases wi : mu (og m) s i = true ∧ wno (og m) m s (el (og m) s i) = i
        · have hR : Rd (og m) m s (mu (og m) s i) i = (CWe (og m) m s (el (og m) s i)).1 + 1 := by unfold Rd; rw [if_pos wi]
          have hP : Pd (og m) m s (mu (og m) s i) i = 0 := by unfold Pd; rw [if_pos wi]
          obtain ⟨e, q1, q2, q3, q4⟩ := mu_el g E' (by omega : i < 10) wi.1
          have bd := (cw_bd (bt m (e / 4)) (bt m ((og m e - 1) / 4)) (m (85 + e)) 10 0 (max (s 0 e - 1) (s 0 (og m e - 1) - 1))).1
          have hCW : cw (bt m (e / 4)) (bt m ((og m e - 1) / 4)) (m (85 + e)) 10 0 (max (s 0 e - 1) (s 0 (og m e - 1) - 1)) = CWe (og m) m s e := rfl
          rw [hCW] at bd
          rw [q1] at hR
          have t0 := E'.2.2.2.2.2.2.1 e q2
          have hog := og_le g q2
          have t1 := E'.2.2.2.2.2.2.1 (og m e - 1) (by omega)
          have l9 := (ok.2.2.2.2 e q2 q3).2.2.2.1
          refine Ev.neg (by rw [hR, fr_s]; simp (disch := omega) only [up_s, up_k, up_j, mm_neg, mm_def, ni_lt, ni_le, ni_eq, ni_mm, mm_ni, ni_lt_mm, ni_le_mm, mm_lt_ni, mm_le_ni, mm_lt_mm, mm_le_mm, ni_cl, ni_in, nI_add, ni_mul, ni_div, ni_rem, ni_rem2, fr_sub, fr_mm, fr_ge0, fr_lt0, fr_inj, l32_0, l32_1, l32_2, l32_3, l32_4, l32_5, l32_6, l32_7, l32_8, l32_9, l32_10, l32_11, l32_12, l32_13, l32_14, l32_15, l32_16, l32_20, l32_24, l32_25, l32_26, l32_31, l32_32, l32_34, l32_35, l32_39, l32_40, l32_44, l32_45, l32_46, l32_47, l32_48, l32_49, l32_57, l32_58, l32_59, l32_63, l32_64, l32_85, l32_90, l32_97, l32_99, l32_100, l32_110, l32_112, l32_122, l32_124, l32_125, l32_255, l32_680, l32_699, l32_700, l32_999, l32_2500, l32_99999, l32_100000, l32_1000000, if_true, if_false, ite_true, ite_false, ce_nm, Option.bind, if_pos, if_neg]; exact id) (Ev.grd (by simp (disch := omega) only [up_s, up_k, up_j, mm_neg, mm_def, ni_lt, ni_le, ni_eq, ni_mm, mm_ni, ni_lt_mm, ni_le_mm, mm_lt_ni, mm_le_ni, mm_lt_mm, mm_le_mm, ni_cl, ni_in, nI_add, ni_mul, ni_div, ni_rem, ni_rem2, fr_sub, fr_mm, fr_ge0, fr_lt0, fr_inj, l32_0, l32_1, l32_2, l32_3, l32_4, l32_5, l32_6, l32_7, l32_8, l32_9, l32_10, l32_11, l32_12, l32_13, l32_14, l32_15, l32_16, l32_20, l32_24, l32_25, l32_26, l32_31, l32_32, l32_34, l32_35, l32_39, l32_40, l32_44, l32_45, l32_46, l32_47, l32_48, l32_49, l32_57, l32_58, l32_59, l32_63, l32_64, l32_85, l32_90, l32_97, l32_99, l32_100, l32_110, l32_112, l32_122, l32_124, l32_125, l32_255, l32_680, l32_699, l32_700, l32_999, l32_2500, l32_99999, l32_100000, l32_1000000, if_true, if_false, ite_true, ite_false, ce_nm, Option.bind, if_pos, if_neg]) (Ev.nm (Ev.some ⟨by omega, nI_1 i, f5.trans (up_fr _ _ _ _), fin _ ?_⟩)))
          rw [hP]
          rfl
        · have hR : Rd (og m) m s (mu (og m) s i) i = s 4 i := by unfold Rd; rw [if_neg wi]
          have hP : Pd (og m) m s (mu (og m) s i) i = s 2 i := by unfold Pd; rw [if_neg wi]
          rw [hR]
          by_cases y : s 4 i = 0
          · refine Ev.pos (by rw [y]; rfl) (Ev.grd (by simp (disch := omega) only [up_s, up_k, up_j, mm_neg, mm_def, ni_lt, ni_le, ni_eq, ni_mm, mm_ni, ni_lt_mm, ni_le_mm, mm_lt_ni, mm_le_ni, mm_lt_mm, mm_le_mm, ni_cl, ni_in, nI_add, ni_mul, ni_div, ni_rem, ni_rem2, fr_sub, fr_mm, fr_ge0, fr_lt0, fr_inj, l32_0, l32_1, l32_2, l32_3, l32_4, l32_5, l32_6, l32_7, l32_8, l32_9, l32_10, l32_11, l32_12, l32_13, l32_14, l32_15, l32_16, l32_20, l32_24, l32_25, l32_26, l32_31, l32_32, l32_34, l32_35, l32_39, l32_40, l32_44, l32_45, l32_46, l32_47, l32_48, l32_49, l32_57, l32_58, l32_59, l32_63, l32_64, l32_85, l32_90, l32_97, l32_99, l32_100, l32_110, l32_112, l32_122, l32_124, l32_125, l32_255, l32_680, l32_699, l32_700, l32_999, l32_2500, l32_99999, l32_100000, l32_1000000, if_true, if_false, ite_true, ite_false, ce_nm, Option.bind, if_pos, if_neg]) (Ev.grd (by simp (disch := omega) only [up_s, up_k, up_j, mm_neg, mm_def, ni_lt, ni_le, ni_eq, ni_mm, mm_ni, ni_lt_mm, ni_le_mm, mm_lt_ni, mm_le_ni, mm_lt_mm, mm_le_mm, ni_cl, ni_in, nI_add, ni_mul, ni_div, ni_rem, ni_rem2, fr_sub, fr_mm, fr_ge0, fr_lt0, fr_inj, l32_0, l32_1, l32_2, l32_3, l32_4, l32_5, l32_6, l32_7, l32_8, l32_9, l32_10, l32_11, l32_12, l32_13, l32_14, l32_15, l32_16, l32_20, l32_24, l32_25, l32_26, l32_31, l32_32, l32_34, l32_35, l32_39, l32_40, l32_44, l32_45, l32_46, l32_47, l32_48, l32_49, l32_57, l32_58, l32_59, l32_63, l32_64, l32_85, l32_90, l32_97, l32_99, l32_100, l32_110, l32_112, l32_122, l32_124, l32_125, l32_255, l32_680, l32_699, l32_700, l32_999, l32_2500, l32_99999, l32_100000, l32_1000000, if_true, if_false, ite_true, ite_false, ce_nm, Option.bind, if_pos, if_neg]) (Ev.nm (Ev.some ⟨by omega, nI_1 i, f5.trans (up_fr _ _ _ _), fin _ ?_⟩))))
            rw [hP]
          · refine Ev.neg (by simp (disch := omega) only [up_s, up_k, up_j, mm_neg, mm_def, ni_lt, ni_le, ni_eq, ni_mm, mm_ni, ni_lt_mm, ni_le_mm, mm_lt_ni, mm_le_ni, mm_lt_mm, mm_le_mm, ni_cl, ni_in, nI_add, ni_mul, ni_div, ni_rem, ni_rem2, fr_sub, fr_mm, fr_ge0, fr_lt0, fr_inj, l32_0, l32_1, l32_2, l32_3, l32_4, l32_5, l32_6, l32_7, l32_8, l32_9, l32_10, l32_11, l32_12, l32_13, l32_14, l32_15, l32_16, l32_20, l32_24, l32_25, l32_26, l32_31, l32_32, l32_34, l32_35, l32_39, l32_40, l32_44, l32_45, l32_46, l32_47, l32_48, l32_49, l32_57, l32_58, l32_59, l32_63, l32_64, l32_85, l32_90, l32_97, l32_99, l32_100, l32_110, l32_112, l32_122, l32_124, l32_125, l32_255, l32_680, l32_699, l32_700, l32_999, l32_2500, l32_99999, l32_100000, l32_1000000, if_true, if_false, ite_true, ite_false, ce_nm, Option.bind, if_pos, if_neg]; exact y) (Ev.grd (by simp (disch := omega) only [up_s, up_k, up_j, mm_neg, mm_def, ni_lt, ni_le, ni_eq, ni_mm, mm_ni, ni_lt_mm, ni_le_mm, mm_lt_ni, mm_le_ni, mm_lt_mm, mm_le_mm, ni_cl, ni_in, nI_add, ni_mul, ni_div, ni_rem, ni_rem2, fr_sub, fr_mm, fr_ge0, fr_lt0, fr_inj, l32_0, l32_1, l32_2, l32_3, l32_4, l32_5, l32_6, l32_7, l32_8, l32_9, l32_10, l32_11, l32_12, l32_13, l32_14, l32_15, l32_16, l32_20, l32_24, l32_25, l32_26, l32_31, l32_32, l32_34, l32_35, l32_39, l32_40, l32_44, l32_45, l32_46, l32_47, l32_48, l32_49, l32_57, l32_58, l32_59, l32_63, l32_64, l32_85, l32_90, l32_97, l32_99, l32_100, l32_110, l32_112, l32_122, l32_124, l32_125, l32_255, l32_680, l32_699, l32_700, l32_999, l32_2500, l32_99999, l32_100000, l32_1000000, if_true, if_false, ite_true, ite_false, ce_nm, Option.bind, if_pos, if_neg]) (Ev.nm (Ev.some ⟨by omega, nI_1 i, f5.trans (up_fr _ _ _ _), fin _ ?_⟩)))
            have : s 2 i = 0 := E'.2.2.2.1 i (by omega) (E'.2.2.1 i (by omega) y).2.1
            rw [hP, this]
            rfl
    · obtain ⟨r1, r2, r3, r4⟩ := M4 v (by omega)
      refine ⟨by rw [hh5.1 _ (by omega)]; exact r1, by rw [hh5.1 _ (by omega)]; exact r3, by rw [hh5.1 _ (by omega)]; exact r4, hh5.2 v hv⟩
