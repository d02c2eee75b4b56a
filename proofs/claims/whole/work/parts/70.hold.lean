-- the class's ticks: nextTick and hold's loop
theorem ti_val {big x : Nat} : ti big x = nI (if x = 0 then big else x - 1) := by
  unfold ti
  by_cases z : x = 0
  · rw [if_pos z, if_pos z]
  · rw [if_neg z, if_neg z]
theorem nI_if {c : Prop} [Decidable c] {a b : Nat} : (if c then nI a else nI b) = nI (if c then a else b) := by
  by_cases z : c
  · rw [if_pos z, if_pos z]
  · rw [if_neg z, if_neg z]
theorem x_nextTick {m wt : Nat → Nat} {s : Es} {t k F : Nat} {h : Hp} (C : CE h k wt s) (hb : ∀ e, e < 40 → s 0 e < 100000) (hb3 : ∀ v, v < 10 → s 3 v - 1 + wt v < 100000) (ht : t < 100000) (hF : 1000 ≤ F) :
    Ev (f3_nextTick F k (nI t) h) (fun r => r = (nI (nx wt s t), h)) := by
  unfold f3_nextTick
  refine Ev.bind (P := fun o => o = (nI (mn (nf0 s t) 40), h)) ?_ (fun o ho => ?_)
  · refine Ev.it (I := fun i st => st = (nI (mn (nf0 s t) i), nI i, h)) _ 40 ?_ F 0 _ (by omega) (by omega) rfl
    rintro i st hi rfl
    show Ev (f3_nextTick_b5 F k (nI t) (nI (mn (nf0 s t) i)) (nI i) h) _
    unfold f3_nextTick_b5
    have mt := mn_top (nf0 s t) i
    have ms := mn_succ (nf0 s t) i
    have nxt : nI i + 1 = nI (i + 1) := nI_1 _
    by_cases hin : 40 ≤ i
    · refine Ev.pos (by simp (disch := omega) only [up_s, up_k, up_j, mm_neg, mm_def, ni_lt, ni_le, ni_eq, ni_mm, mm_ni, ni_lt_mm, ni_le_mm, mm_lt_ni, mm_le_ni, mm_lt_mm, mm_le_mm, ni_cl, ni_in, nI_add, ni_mul, ni_div, ni_rem, ni_rem2, fr_sub, fr_mm, fr_ge0, fr_lt0, fr_inj, l32_0, l32_1, l32_2, l32_3, l32_4, l32_5, l32_6, l32_7, l32_8, l32_9, l32_10, l32_11, l32_12, l32_13, l32_14, l32_15, l32_16, l32_20, l32_24, l32_25, l32_26, l32_31, l32_32, l32_34, l32_35, l32_39, l32_40, l32_44, l32_45, l32_46, l32_47, l32_48, l32_49, l32_57, l32_58, l32_59, l32_63, l32_64, l32_85, l32_90, l32_97, l32_99, l32_100, l32_110, l32_112, l32_122, l32_124, l32_125, l32_255, l32_680, l32_699, l32_700, l32_999, l32_2500, l32_99999, l32_100000, l32_1000000, if_true, if_false, ite_true, ite_false, ce_nm, Option.bind, if_pos, if_neg]; exact hin) (Ev.some ?_)
      have : i = 40 := by omega
      rw [this]
    · have hbe := hb i (by omega)
      refine Ev.neg (by simp (disch := omega) only [up_s, up_k, up_j, mm_neg, mm_def, ni_lt, ni_le, ni_eq, ni_mm, mm_ni, ni_lt_mm, ni_le_mm, mm_lt_ni, mm_le_ni, mm_lt_mm, mm_le_mm, ni_cl, ni_in, nI_add, ni_mul, ni_div, ni_rem, ni_rem2, fr_sub, fr_mm, fr_ge0, fr_lt0, fr_inj, l32_0, l32_1, l32_2, l32_3, l32_4, l32_5, l32_6, l32_7, l32_8, l32_9, l32_10, l32_11, l32_12, l32_13, l32_14, l32_15, l32_16, l32_20, l32_24, l32_25, l32_26, l32_31, l32_32, l32_34, l32_35, l32_39, l32_40, l32_44, l32_45, l32_46, l32_47, l32_48, l32_49, l32_57, l32_58, l32_59, l32_63, l32_64, l32_85, l32_90, l32_97, l32_99, l32_100, l32_110, l32_112, l32_122, l32_124, l32_125, l32_255, l32_680, l32_699, l32_700, l32_999, l32_2500, l32_99999, l32_100000, l32_1000000, if_true, if_false, ite_true, ite_false, ce_nm, Option.bind, if_pos, if_neg]; exact hin) (Ev.grd (by simp (disch := omega) only [up_s, up_k, up_j, mm_neg, mm_def, ni_lt, ni_le, ni_eq, ni_mm, mm_ni, ni_lt_mm, ni_le_mm, mm_lt_ni, mm_le_ni, mm_lt_mm, mm_le_mm, ni_cl, ni_in, nI_add, ni_mul, ni_div, ni_rem, ni_rem2, fr_sub, fr_mm, fr_ge0, fr_lt0, fr_inj, l32_0, l32_1, l32_2, l32_3, l32_4, l32_5, l32_6, l32_7, l32_8, l32_9, l32_10, l32_11, l32_12, l32_13, l32_14, l32_15, l32_16, l32_20, l32_24, l32_25, l32_26, l32_31, l32_32, l32_34, l32_35, l32_39, l32_40, l32_44, l32_45, l32_46, l32_47, l32_48, l32_49, l32_57, l32_58, l32_59, l32_63, l32_64, l32_85, l32_90, l32_97, l32_99, l32_100, l32_110, l32_112, l32_122, l32_124, l32_125, l32_255, l32_680, l32_699, l32_700, l32_999, l32_2500, l32_99999, l32_100000, l32_1000000, if_true, if_false, ite_true, ite_false, ce_nm, Option.bind, if_pos, if_neg]) ?_)
      rw [ni_cl (by omega), C.1 i (by omega)]
      by_cases hh : s 0 i ≠ 0 ∧ s 0 i ≤ t + 1
      · refine Ev.pos (by rw [ti_le (by omega) (by omega) (by omega)]; exact hh) (Ev.some ⟨by omega, ?_⟩)
        have : nf0 s t i = 1000000 := by unfold nf0; rw [if_pos (by omega)]
        rw [nxt, ms, this, Nat.min_eq_left mt]
      · refine Ev.neg (by rw [ti_le (by omega) (by omega) (by omega)]; exact hh) (Ev.grd (by simp (disch := omega) only [up_s, up_k, up_j, mm_neg, mm_def, ni_lt, ni_le, ni_eq, ni_mm, mm_ni, ni_lt_mm, ni_le_mm, mm_lt_ni, mm_le_ni, mm_lt_mm, mm_le_mm, ni_cl, ni_in, nI_add, ni_mul, ni_div, ni_rem, ni_rem2, fr_sub, fr_mm, fr_ge0, fr_lt0, fr_inj, l32_0, l32_1, l32_2, l32_3, l32_4, l32_5, l32_6, l32_7, l32_8, l32_9, l32_10, l32_11, l32_12, l32_13, l32_14, l32_15, l32_16, l32_20, l32_24, l32_25, l32_26, l32_31, l32_32, l32_34, l32_35, l32_39, l32_40, l32_44, l32_45, l32_46, l32_47, l32_48, l32_49, l32_57, l32_58, l32_59, l32_63, l32_64, l32_85, l32_90, l32_97, l32_99, l32_100, l32_110, l32_112, l32_122, l32_124, l32_125, l32_255, l32_680, l32_699, l32_700, l32_999, l32_2500, l32_99999, l32_100000, l32_1000000, if_true, if_false, ite_true, ite_false, ce_nm, Option.bind, if_pos, if_neg]) (Ev.some ⟨by omega, ?_⟩))
        have e1 : ti 1000000 (s 0 i) = nI (nf0 s t i) := by
          rw [ti_val]
          unfold nf0
          by_cases z : s 0 i = 0
          · rw [if_pos z, if_pos (Or.inl z)]
          · rw [if_neg z, if_neg (by omega)]
        have b1 : nf0 s t i ≤ 1000000 := by
          unfold nf0
          by_cases z : s 0 i = 0 ∨ s 0 i ≤ t + 1
          · rw [if_pos z]; omega
          · rw [if_neg z]; omega
        rw [e1, nxt, ms, ni_min (by omega) (by omega)]
  · subst ho
    dsimp only
    refine Ev.bind (P := fun o => o = (nI (nx wt s t), h)) ?_ (fun o ho => Ev.some ho)
    have mt0 := mn_top (nf0 s t) 40
    have h0 : nI (mn (nf0 s t) 40) = nI (min (mn (nf0 s t) 40) (mn (nf3 wt s t) 0)) := by
      have hz : mn (nf3 wt s t) 0 = 1000000 := rfl
      rw [hz, Nat.min_eq_left mt0]
    rw [h0]
    unfold nx
    generalize mn (nf0 s t) 40 = a at mt0
    refine Ev.it (I := fun i st => st = (nI (min a (mn (nf3 wt s t) i)), nI i, h)) _ 10 ?_ F 0 _ (by omega) (by omega) rfl
    rintro i st hi rfl
    show Ev (f3_nextTick_b40 F k (nI t) (nI (min a (mn (nf3 wt s t) i))) (nI i) h) _
    unfold f3_nextTick_b40
    have mt := mn_top (nf3 wt s t) i
    have ms := mn_succ (nf3 wt s t) i
    have nxt : nI i + 1 = nI (i + 1) := nI_1 _
    by_cases hin : 10 ≤ i
    · refine Ev.pos (by simp (disch := omega) only [up_s, up_k, up_j, mm_neg, mm_def, ni_lt, ni_le, ni_eq, ni_mm, mm_ni, ni_lt_mm, ni_le_mm, mm_lt_ni, mm_le_ni, mm_lt_mm, mm_le_mm, ni_cl, ni_in, nI_add, ni_mul, ni_div, ni_rem, ni_rem2, fr_sub, fr_mm, fr_ge0, fr_lt0, fr_inj, l32_0, l32_1, l32_2, l32_3, l32_4, l32_5, l32_6, l32_7, l32_8, l32_9, l32_10, l32_11, l32_12, l32_13, l32_14, l32_15, l32_16, l32_20, l32_24, l32_25, l32_26, l32_31, l32_32, l32_34, l32_35, l32_39, l32_40, l32_44, l32_45, l32_46, l32_47, l32_48, l32_49, l32_57, l32_58, l32_59, l32_63, l32_64, l32_85, l32_90, l32_97, l32_99, l32_100, l32_110, l32_112, l32_122, l32_124, l32_125, l32_255, l32_680, l32_699, l32_700, l32_999, l32_2500, l32_99999, l32_100000, l32_1000000, if_true, if_false, ite_true, ite_false, ce_nm, Option.bind, if_pos, if_neg]; exact hin) (Ev.some ?_)
      have : i = 10 := by omega
      rw [this]
    · have hbe := hb3 i (by omega)
      refine Ev.neg (by simp (disch := omega) only [up_s, up_k, up_j, mm_neg, mm_def, ni_lt, ni_le, ni_eq, ni_mm, mm_ni, ni_lt_mm, ni_le_mm, mm_lt_ni, mm_le_ni, mm_lt_mm, mm_le_mm, ni_cl, ni_in, nI_add, ni_mul, ni_div, ni_rem, ni_rem2, fr_sub, fr_mm, fr_ge0, fr_lt0, fr_inj, l32_0, l32_1, l32_2, l32_3, l32_4, l32_5, l32_6, l32_7, l32_8, l32_9, l32_10, l32_11, l32_12, l32_13, l32_14, l32_15, l32_16, l32_20, l32_24, l32_25, l32_26, l32_31, l32_32, l32_34, l32_35, l32_39, l32_40, l32_44, l32_45, l32_46, l32_47, l32_48, l32_49, l32_57, l32_58, l32_59, l32_63, l32_64, l32_85, l32_90, l32_97, l32_99, l32_100, l32_110, l32_112, l32_122, l32_124, l32_125, l32_255, l32_680, l32_699, l32_700, l32_999, l32_2500, l32_99999, l32_100000, l32_1000000, if_true, if_false, ite_true, ite_false, ce_nm, Option.bind, if_pos, if_neg]; exact hin) (Ev.grd (by simp (disch := omega) only [up_s, up_k, up_j, mm_neg, mm_def, ni_lt, ni_le, ni_eq, ni_mm, mm_ni, ni_lt_mm, ni_le_mm, mm_lt_ni, mm_le_ni, mm_lt_mm, mm_le_mm, ni_cl, ni_in, nI_add, ni_mul, ni_div, ni_rem, ni_rem2, fr_sub, fr_mm, fr_ge0, fr_lt0, fr_inj, l32_0, l32_1, l32_2, l32_3, l32_4, l32_5, l32_6, l32_7, l32_8, l32_9, l32_10, l32_11, l32_12, l32_13, l32_14, l32_15, l32_16, l32_20, l32_24, l32_25, l32_26, l32_31, l32_32, l32_34, l32_35, l32_39, l32_40, l32_44, l32_45, l32_46, l32_47, l32_48, l32_49, l32_57, l32_58, l32_59, l32_63, l32_64, l32_85, l32_90, l32_97, l32_99, l32_100, l32_110, l32_112, l32_122, l32_124, l32_125, l32_255, l32_680, l32_699, l32_700, l32_999, l32_2500, l32_99999, l32_100000, l32_1000000, if_true, if_false, ite_true, ite_false, ce_nm, Option.bind, if_pos, if_neg]) ?_)
      rw [ni_cl (by omega), (C.2 i (by omega)).2.2.2.1, nI_if]
      have b1 : nf3 wt s t i ≤ 1000000 := by
        unfold nf3
        by_cases z : s 3 i = 0 ∨ s 3 i - 1 + wt i ≤ t
        · rw [if_pos z]; omega
        · rw [if_neg z]; omega
      by_cases z : s 3 i = 0
      · have e1 : nf3 wt s t i = 1000000 := by unfold nf3; rw [if_pos (Or.inl z)]
        rw [if_pos z]
        refine Ev.neg (by simp (disch := omega) only [up_s, up_k, up_j, mm_neg, mm_def, ni_lt, ni_le, ni_eq, ni_mm, mm_ni, ni_lt_mm, ni_le_mm, mm_lt_ni, mm_le_ni, mm_lt_mm, mm_le_mm, ni_cl, ni_in, nI_add, ni_mul, ni_div, ni_rem, ni_rem2, fr_sub, fr_mm, fr_ge0, fr_lt0, fr_inj, l32_0, l32_1, l32_2, l32_3, l32_4, l32_5, l32_6, l32_7, l32_8, l32_9, l32_10, l32_11, l32_12, l32_13, l32_14, l32_15, l32_16, l32_20, l32_24, l32_25, l32_26, l32_31, l32_32, l32_34, l32_35, l32_39, l32_40, l32_44, l32_45, l32_46, l32_47, l32_48, l32_49, l32_57, l32_58, l32_59, l32_63, l32_64, l32_85, l32_90, l32_97, l32_99, l32_100, l32_110, l32_112, l32_122, l32_124, l32_125, l32_255, l32_680, l32_699, l32_700, l32_999, l32_2500, l32_99999, l32_100000, l32_1000000, if_true, if_false, ite_true, ite_false, ce_nm, Option.bind, if_pos, if_neg]; omega) (Ev.grd (by simp (disch := omega) only [up_s, up_k, up_j, mm_neg, mm_def, ni_lt, ni_le, ni_eq, ni_mm, mm_ni, ni_lt_mm, ni_le_mm, mm_lt_ni, mm_le_ni, mm_lt_mm, mm_le_mm, ni_cl, ni_in, nI_add, ni_mul, ni_div, ni_rem, ni_rem2, fr_sub, fr_mm, fr_ge0, fr_lt0, fr_inj, l32_0, l32_1, l32_2, l32_3, l32_4, l32_5, l32_6, l32_7, l32_8, l32_9, l32_10, l32_11, l32_12, l32_13, l32_14, l32_15, l32_16, l32_20, l32_24, l32_25, l32_26, l32_31, l32_32, l32_34, l32_35, l32_39, l32_40, l32_44, l32_45, l32_46, l32_47, l32_48, l32_49, l32_57, l32_58, l32_59, l32_63, l32_64, l32_85, l32_90, l32_97, l32_99, l32_100, l32_110, l32_112, l32_122, l32_124, l32_125, l32_255, l32_680, l32_699, l32_700, l32_999, l32_2500, l32_99999, l32_100000, l32_1000000, if_true, if_false, ite_true, ite_false, ce_nm, Option.bind, if_pos, if_neg]) (Ev.some ⟨by omega, ?_⟩))
        rw [nxt, ms, e1, ni_min (by omega) (by omega)]
        congr 2
        omega
      · rw [if_neg z]
        by_cases hh : s 3 i - 1 + wt i ≤ t
        · have e1 : nf3 wt s t i = 1000000 := by unfold nf3; rw [if_pos (Or.inr hh)]
          refine Ev.pos (by simp (disch := omega) only [up_s, up_k, up_j, mm_neg, mm_def, ni_lt, ni_le, ni_eq, ni_mm, mm_ni, ni_lt_mm, ni_le_mm, mm_lt_ni, mm_le_ni, mm_lt_mm, mm_le_mm, ni_cl, ni_in, nI_add, ni_mul, ni_div, ni_rem, ni_rem2, fr_sub, fr_mm, fr_ge0, fr_lt0, fr_inj, l32_0, l32_1, l32_2, l32_3, l32_4, l32_5, l32_6, l32_7, l32_8, l32_9, l32_10, l32_11, l32_12, l32_13, l32_14, l32_15, l32_16, l32_20, l32_24, l32_25, l32_26, l32_31, l32_32, l32_34, l32_35, l32_39, l32_40, l32_44, l32_45, l32_46, l32_47, l32_48, l32_49, l32_57, l32_58, l32_59, l32_63, l32_64, l32_85, l32_90, l32_97, l32_99, l32_100, l32_110, l32_112, l32_122, l32_124, l32_125, l32_255, l32_680, l32_699, l32_700, l32_999, l32_2500, l32_99999, l32_100000, l32_1000000, if_true, if_false, ite_true, ite_false, ce_nm, Option.bind, if_pos, if_neg]; exact hh) (Ev.some ⟨by omega, ?_⟩)
          rw [nxt, ms, e1]
          congr 2
          omega
        · have e1 : nf3 wt s t i = s 3 i - 1 + wt i := by unfold nf3; rw [if_neg (by omega)]
          refine Ev.neg (by simp (disch := omega) only [up_s, up_k, up_j, mm_neg, mm_def, ni_lt, ni_le, ni_eq, ni_mm, mm_ni, ni_lt_mm, ni_le_mm, mm_lt_ni, mm_le_ni, mm_lt_mm, mm_le_mm, ni_cl, ni_in, nI_add, ni_mul, ni_div, ni_rem, ni_rem2, fr_sub, fr_mm, fr_ge0, fr_lt0, fr_inj, l32_0, l32_1, l32_2, l32_3, l32_4, l32_5, l32_6, l32_7, l32_8, l32_9, l32_10, l32_11, l32_12, l32_13, l32_14, l32_15, l32_16, l32_20, l32_24, l32_25, l32_26, l32_31, l32_32, l32_34, l32_35, l32_39, l32_40, l32_44, l32_45, l32_46, l32_47, l32_48, l32_49, l32_57, l32_58, l32_59, l32_63, l32_64, l32_85, l32_90, l32_97, l32_99, l32_100, l32_110, l32_112, l32_122, l32_124, l32_125, l32_255, l32_680, l32_699, l32_700, l32_999, l32_2500, l32_99999, l32_100000, l32_1000000, if_true, if_false, ite_true, ite_false, ce_nm, Option.bind, if_pos, if_neg]; exact hh) (Ev.grd (by simp (disch := omega) only [up_s, up_k, up_j, mm_neg, mm_def, ni_lt, ni_le, ni_eq, ni_mm, mm_ni, ni_lt_mm, ni_le_mm, mm_lt_ni, mm_le_ni, mm_lt_mm, mm_le_mm, ni_cl, ni_in, nI_add, ni_mul, ni_div, ni_rem, ni_rem2, fr_sub, fr_mm, fr_ge0, fr_lt0, fr_inj, l32_0, l32_1, l32_2, l32_3, l32_4, l32_5, l32_6, l32_7, l32_8, l32_9, l32_10, l32_11, l32_12, l32_13, l32_14, l32_15, l32_16, l32_20, l32_24, l32_25, l32_26, l32_31, l32_32, l32_34, l32_35, l32_39, l32_40, l32_44, l32_45, l32_46, l32_47, l32_48, l32_49, l32_57, l32_58, l32_59, l32_63, l32_64, l32_85, l32_90, l32_97, l32_99, l32_100, l32_110, l32_112, l32_122, l32_124, l32_125, l32_255, l32_680, l32_699, l32_700, l32_999, l32_2500, l32_99999, l32_100000, l32_1000000, if_true, if_false, ite_true, ite_false, ce_nm, Option.bind, if_pos, if_neg]) (Ev.some ⟨by omega, ?_⟩))
          rw [nxt, ms, e1, ni_min (by omega) (by omega)]
          congr 2
          omega
/-- a tick of the class -/
theorem x_htick {m wt : Nat → Nat} {t k kn F : Nat} {h : Hp} {x y : Int32} (hk : ce_isEl k) (hkn : ce_isNet kn) (ok : OkG m) (hw : ∀ v, v < 10 → wt v ≤ 20) (hm0 : m 0 ≤ 20) (cn : CNw h kn m) (c1 : h kn 1 = nI (m 0)) (c2 : ∀ v, v < m 2 → h (kn + 2) v = nI (m (15 + v)) ∧ m (15 + v) ≤ 1) (hx : ∀ v, v < m 2 → wt v = if m (15 + v) = 0 ∧ ¬ nI v = x then 0 else m 0) (ht : t < 10000) (C : CE h k wt (rM (og m) m wt (m 2) t)) (hF : 1000 ≤ F) :
    Ev (ce_it (fun (st : Int32 × Hp) => f3_hold_b71 F k kn x (nI t) y st.1 st.2) F ((0 : Int32), h)) (fun h' => Fr (k + 1) (k + 6) h h' ∧ CE h' k wt (rM (og m) m wt (m 2) (t + 1))) := by
  have h2 := ok.2.1
  have bk := el_ge hk
  have bn := net_le hkn
  refine Ev.it (I := fun i st => st.1 = nI i ∧ Fr (k + 1) (k + 6) h st.2 ∧ CE st.2 k wt (eT (og m) m wt t i (rM (og m) m wt (m 2) t))) _ (m 2) ?_ F 0 _ (by omega) (by omega) ⟨rfl, Fr.refl _ _ _, C⟩
  rintro i ⟨z, h1⟩ hi hI
  obtain ⟨rfl, f1, M1⟩ : z = nI i ∧ Fr (k + 1) (k + 6) h h1 ∧ CE h1 k wt (eT (og m) m wt t i (rM (og m) m wt (m 2) t)) := hI
  show Ev (f3_hold_b71 F k kn x (nI t) y (nI i) h1) _
  have cn1 := cn.fr hkn f1 (by omega)
  have E := EM_T ok (EM_r (wt := wt) ok t) i hi
  have n3 : h1 kn 3 = nI (m 2) := cn1.2.1
  unfold f3_hold_b71
  by_cases hin : m 2 ≤ i
  · refine Ev.pos (by simp (disch := omega) only [up_s, up_k, up_j, mm_neg, mm_def, ni_lt, ni_le, ni_eq, ni_mm, mm_ni, ni_lt_mm, ni_le_mm, mm_lt_ni, mm_le_ni, mm_lt_mm, mm_le_mm, ni_cl, ni_in, nI_add, ni_mul, ni_div, ni_rem, ni_rem2, fr_sub, fr_mm, fr_ge0, fr_lt0, fr_inj, l32_0, l32_1, l32_2, l32_3, l32_4, l32_5, l32_6, l32_7, l32_8, l32_9, l32_10, l32_11, l32_12, l32_13, l32_14, l32_15, l32_16, l32_20, l32_24, l32_25, l32_26, l32_31, l32_32, l32_34, l32_35, l32_39, l32_40, l32_44, l32_45, l32_46, l32_47, l32_48, l32_49, l32_57, l32_58, l32_59, l32_63, l32_64, l32_85, l32_90, l32_97, l32_99, l32_100, l32_110, l32_112, l32_122, l32_124, l32_125, l32_255, l32_680, l32_699, l32_700, l32_999, l32_2500, l32_99999, l32_100000, l32_1000000, if_true, if_false, ite_true, ite_false, ce_nm, Option.bind, if_pos, if_neg, n3]; exact hin) (Ev.some ⟨f1, ?_⟩)
    have : i = m 2 := by omega
    subst this
    exact M1
  · have hi2 : i < m 2 := by omega
    have e2 : h1 (kn + 2) i = nI (m (15 + i)) := by rw [f1 _ (by omega)]; exact (c2 i hi2).1
    have e1 : h1 kn 1 = nI (m 0) := by rw [f1 _ (by omega)]; exact c1
    have b2 := (c2 i hi2).2
    have wi := hx i hi2
    have xl := x_listen (F := F) hk hkn ok cn1 M1 E hi2 ht (hw i (by omega)) hF
    have nx' : eT (og m) m wt t (i + 1) (rM (og m) m wt (m 2) t) = es (og m) m wt t i (eT (og m) m wt t i (rM (og m) m wt (m 2) t)) := rfl
    generalize eT (og m) m wt t i (rM (og m) m wt (m 2) t) = s at M1 E nx' xl
    have xl' : ∀ w : Int32, w = nI (wt i) → Ev (f3_listen F k kn (nI i) (nI t) w h1) (fun h' => Fr (k + 1) (k + 6) h1 h' ∧ CE h' k wt (eT (og m) m wt t (i + 1) (rM (og m) m wt (m 2) t))) := fun w hw' => by
      rw [hw', nx']
      exact xl
    refine Ev.neg (by simp (disch := omega) only [up_s, up_k, up_j, mm_neg, mm_def, ni_lt, ni_le, ni_eq, ni_mm, mm_ni, ni_lt_mm, ni_le_mm, mm_lt_ni, mm_le_ni, mm_lt_mm, mm_le_mm, ni_cl, ni_in, nI_add, ni_mul, ni_div, ni_rem, ni_rem2, fr_sub, fr_mm, fr_ge0, fr_lt0, fr_inj, l32_0, l32_1, l32_2, l32_3, l32_4, l32_5, l32_6, l32_7, l32_8, l32_9, l32_10, l32_11, l32_12, l32_13, l32_14, l32_15, l32_16, l32_20, l32_24, l32_25, l32_26, l32_31, l32_32, l32_34, l32_35, l32_39, l32_40, l32_44, l32_45, l32_46, l32_47, l32_48, l32_49, l32_57, l32_58, l32_59, l32_63, l32_64, l32_85, l32_90, l32_97, l32_99, l32_100, l32_110, l32_112, l32_122, l32_124, l32_125, l32_255, l32_680, l32_699, l32_700, l32_999, l32_2500, l32_99999, l32_100000, l32_1000000, if_true, if_false, ite_true, ite_false, ce_nm, Option.bind, if_pos, if_neg, n3]; exact hin) (Ev.grd (by simp (disch := omega) only [up_s, up_k, up_j, mm_neg, mm_def, ni_lt, ni_le, ni_eq, ni_mm, mm_ni, ni_lt_mm, ni_le_mm, mm_lt_ni, mm_le_ni, mm_lt_mm, mm_le_mm, ni_cl, ni_in, nI_add, ni_mul, ni_div, ni_rem, ni_rem2, fr_sub, fr_mm, fr_ge0, fr_lt0, fr_inj, l32_0, l32_1, l32_2, l32_3, l32_4, l32_5, l32_6, l32_7, l32_8, l32_9, l32_10, l32_11, l32_12, l32_13, l32_14, l32_15, l32_16, l32_20, l32_24, l32_25, l32_26, l32_31, l32_32, l32_34, l32_35, l32_39, l32_40, l32_44, l32_45, l32_46, l32_47, l32_48, l32_49, l32_57, l32_58, l32_59, l32_63, l32_64, l32_85, l32_90, l32_97, l32_99, l32_100, l32_110, l32_112, l32_122, l32_124, l32_125, l32_255, l32_680, l32_699, l32_700, l32_999, l32_2500, l32_99999, l32_100000, l32_1000000, if_true, if_false, ite_true, ite_false, ce_nm, Option.bind, if_pos, if_neg]) ?_)
    rw [ni_cl (by omega), e2]
    by_cases z : m (15 + i) = 0
    · refine Ev.pos (by simp (disch := omega) only [up_s, up_k, up_j, mm_neg, mm_def, ni_lt, ni_le, ni_eq, ni_mm, mm_ni, ni_lt_mm, ni_le_mm, mm_lt_ni, mm_le_ni, mm_lt_mm, mm_le_mm, ni_cl, ni_in, nI_add, ni_mul, ni_div, ni_rem, ni_rem2, fr_sub, fr_mm, fr_ge0, fr_lt0, fr_inj, l32_0, l32_1, l32_2, l32_3, l32_4, l32_5, l32_6, l32_7, l32_8, l32_9, l32_10, l32_11, l32_12, l32_13, l32_14, l32_15, l32_16, l32_20, l32_24, l32_25, l32_26, l32_31, l32_32, l32_34, l32_35, l32_39, l32_40, l32_44, l32_45, l32_46, l32_47, l32_48, l32_49, l32_57, l32_58, l32_59, l32_63, l32_64, l32_85, l32_90, l32_97, l32_99, l32_100, l32_110, l32_112, l32_122, l32_124, l32_125, l32_255, l32_680, l32_699, l32_700, l32_999, l32_2500, l32_99999, l32_100000, l32_1000000, if_true, if_false, ite_true, ite_false, ce_nm, Option.bind, if_pos, if_neg]; exact z) ?_
      by_cases q : nI i = x
      · refine Ev.pos q (Ev.neg (by decide) ?_)
        refine Ev.bind (xl' _ ?_) (fun h3 hh => Ev.some ⟨hi2, nI_1 i, f1.trans hh.1, hh.2⟩)
        rw [e1, wi, if_neg (by simp [q])]
      · refine Ev.neg q (Ev.pos rfl ?_)
        refine Ev.bind (xl' _ ?_) (fun h3 hh => Ev.some ⟨hi2, nI_1 i, f1.trans hh.1, hh.2⟩)
        rw [wi, if_pos ⟨z, q⟩]
        rfl
    · refine Ev.neg (by simp (disch := omega) only [up_s, up_k, up_j, mm_neg, mm_def, ni_lt, ni_le, ni_eq, ni_mm, mm_ni, ni_lt_mm, ni_le_mm, mm_lt_ni, mm_le_ni, mm_lt_mm, mm_le_mm, ni_cl, ni_in, nI_add, ni_mul, ni_div, ni_rem, ni_rem2, fr_sub, fr_mm, fr_ge0, fr_lt0, fr_inj, l32_0, l32_1, l32_2, l32_3, l32_4, l32_5, l32_6, l32_7, l32_8, l32_9, l32_10, l32_11, l32_12, l32_13, l32_14, l32_15, l32_16, l32_20, l32_24, l32_25, l32_26, l32_31, l32_32, l32_34, l32_35, l32_39, l32_40, l32_44, l32_45, l32_46, l32_47, l32_48, l32_49, l32_57, l32_58, l32_59, l32_63, l32_64, l32_85, l32_90, l32_97, l32_99, l32_100, l32_110, l32_112, l32_122, l32_124, l32_125, l32_255, l32_680, l32_699, l32_700, l32_999, l32_2500, l32_99999, l32_100000, l32_1000000, if_true, if_false, ite_true, ite_false, ce_nm, Option.bind, if_pos, if_neg]; exact z) (Ev.neg (by decide) ?_)
      refine Ev.bind (xl' _ ?_) (fun h3 hh => Ev.some ⟨hi2, nI_1 i, f1.trans hh.1, hh.2⟩)
      rw [e1, wi, if_neg (by simp [z])]
theorem x_hticks {m wt : Nat → Nat} {k kn F : Nat} {h : Hp} {x : Int32} (hk : ce_isEl k) (hkn : ce_isNet kn) (ok : OkG m) (hw : ∀ v, v < 10 → wt v ≤ 20) (hm0 : m 0 ≤ 20) (cn : CNw h kn m) (c1 : h kn 1 = nI (m 0)) (c2 : ∀ v, v < m 2 → h (kn + 2) v = nI (m (15 + v)) ∧ m (15 + v) ≤ 1) (hx : ∀ v, v < m 2 → wt v = if m (15 + v) = 0 ∧ ¬ nI v = x then 0 else m 0) (C : CE h k wt (fun _ _ => 0)) (hF : 1000 ≤ F) :
    Ev (ce_it (fun (st : Int32 × Int32 × Hp) => f3_hold_b55 F k kn x st.1 st.2.1 st.2.2) F ((0 : Int32), (0 : Int32), h)) (fun h' => Fr (k + 1) (k + 6) h h' ∧ CE h' k wt (rM (og m) m wt (m 2) 700)) := by
  have bk := el_ge hk
  have bn := net_le hkn
  refine Ev.it (I := fun i st => st.2.1 = nI i ∧ Fr (k + 1) (k + 6) h st.2.2 ∧ ((∃ T, st.1 = nI T ∧ T ≤ 20 * i ∧ i ≤ kE wt (rM (og m) m wt (m 2) T) T ∧ CE st.2.2 k wt (rM (og m) m wt (m 2) T)) ∨ (st.1 = nI 1000000 ∧ CE st.2.2 k wt (rM (og m) m wt (m 2) 700)))) _ 21 ?_ F 0 _ (by omega) (by omega) ⟨rfl, Fr.refl _ _ _, Or.inl ⟨0, rfl, Nat.le_refl _, Nat.zero_le _, C⟩⟩
  rintro i ⟨tk, z, h1⟩ hi hI
  obtain ⟨rfl, f1, M1⟩ : z = nI i ∧ Fr (k + 1) (k + 6) h h1 ∧ ((∃ T, tk = nI T ∧ T ≤ 20 * i ∧ i ≤ kE wt (rM (og m) m wt (m 2) T) T ∧ CE h1 k wt (rM (og m) m wt (m 2) T)) ∨ (tk = nI 1000000 ∧ CE h1 k wt (rM (og m) m wt (m 2) 700))) := hI
  show Ev (f3_hold_b55 F k kn x tk (nI i) h1) _
  unfold f3_hold_b55
  refine Ev.neg (by simp (disch := omega) only [up_s, up_k, up_j, mm_neg, mm_def, ni_lt, ni_le, ni_eq, ni_mm, mm_ni, ni_lt_mm, ni_le_mm, mm_lt_ni, mm_le_ni, mm_lt_mm, mm_le_mm, ni_cl, ni_in, nI_add, ni_mul, ni_div, ni_rem, ni_rem2, fr_sub, fr_mm, fr_ge0, fr_lt0, fr_inj, l32_0, l32_1, l32_2, l32_3, l32_4, l32_5, l32_6, l32_7, l32_8, l32_9, l32_10, l32_11, l32_12, l32_13, l32_14, l32_15, l32_16, l32_20, l32_24, l32_25, l32_26, l32_31, l32_32, l32_34, l32_35, l32_39, l32_40, l32_44, l32_45, l32_46, l32_47, l32_48, l32_49, l32_57, l32_58, l32_59, l32_63, l32_64, l32_85, l32_90, l32_97, l32_99, l32_100, l32_110, l32_112, l32_122, l32_124, l32_125, l32_255, l32_680, l32_699, l32_700, l32_999, l32_2500, l32_99999, l32_100000, l32_1000000, if_true, if_false, ite_true, ite_false, ce_nm, Option.bind, if_pos, if_neg]; omega) ?_
  rcases M1 with ⟨T, rfl, hT, hK, M⟩ | ⟨rfl, M⟩
  · have kl := kE_le (T := T) ok.2.2.2.1 (EM_r (wt := wt) ok T)
    refine Ev.neg (by simp (disch := omega) only [up_s, up_k, up_j, mm_neg, mm_def, ni_lt, ni_le, ni_eq, ni_mm, mm_ni, ni_lt_mm, ni_le_mm, mm_lt_ni, mm_le_ni, mm_lt_mm, mm_le_mm, ni_cl, ni_in, nI_add, ni_mul, ni_div, ni_rem, ni_rem2, fr_sub, fr_mm, fr_ge0, fr_lt0, fr_inj, l32_0, l32_1, l32_2, l32_3, l32_4, l32_5, l32_6, l32_7, l32_8, l32_9, l32_10, l32_11, l32_12, l32_13, l32_14, l32_15, l32_16, l32_20, l32_24, l32_25, l32_26, l32_31, l32_32, l32_34, l32_35, l32_39, l32_40, l32_44, l32_45, l32_46, l32_47, l32_48, l32_49, l32_57, l32_58, l32_59, l32_63, l32_64, l32_85, l32_90, l32_97, l32_99, l32_100, l32_110, l32_112, l32_122, l32_124, l32_125, l32_255, l32_680, l32_699, l32_700, l32_999, l32_2500, l32_99999, l32_100000, l32_1000000, if_true, if_false, ite_true, ite_false, ce_nm, Option.bind, if_pos, if_neg]; omega) ?_
    have f1' := f1
    refine Ev.bind (x_htick (y := nI i) hk hkn ok hw hm0 (cn.fr hkn f1 (by omega)) (by rw [f1 _ (by omega)]; exact c1) (fun v hv => by rw [f1 _ (by omega)]; exact c2 v hv) hx (by omega) M hF) (fun h3 hh => ?_)
    have E := EM_e (wt := wt) ok T
    refine Ev.bind (x_nextTick (m := m) (t := T) hh.2 (fun e he => by have := E.2.2.2.2.2.2.1 e he; omega) (fun v hv => by have := E.2.2.2.2.1 v hv; have := hw v hv; omega) (by omega) hF) (fun r hr => ?_)
    subst hr
    rcases ev_next (T := T) ok hw (by omega) with ⟨q1, q2, q3⟩ | ⟨q1, q2, q3, q4⟩
    · refine Ev.some ⟨by omega, nI_1 i, f1.trans hh.1, Or.inr ⟨?_, ?_⟩⟩
      · dsimp only
        rw [q1]
      · dsimp only
        rw [q2]
        exact hh.2
    · refine Ev.some ⟨by omega, nI_1 i, f1.trans hh.1, Or.inl ⟨nx wt (rM (og m) m wt (m 2) (T + 1)) T, rfl, by omega, by omega, ?_⟩⟩
      dsimp only
      rw [q3]
      exact hh.2
  · exact Ev.pos (by simp (disch := omega) only [up_s, up_k, up_j, mm_neg, mm_def, ni_lt, ni_le, ni_eq, ni_mm, mm_ni, ni_lt_mm, ni_le_mm, mm_lt_ni, mm_le_ni, mm_lt_mm, mm_le_mm, ni_cl, ni_in, nI_add, ni_mul, ni_div, ni_rem, ni_rem2, fr_sub, fr_mm, fr_ge0, fr_lt0, fr_inj, l32_0, l32_1, l32_2, l32_3, l32_4, l32_5, l32_6, l32_7, l32_8, l32_9, l32_10, l32_11, l32_12, l32_13, l32_14, l32_15, l32_16, l32_20, l32_24, l32_25, l32_26, l32_31, l32_32, l32_34, l32_35, l32_39, l32_40, l32_44, l32_45, l32_46, l32_47, l32_48, l32_49, l32_57, l32_58, l32_59, l32_63, l32_64, l32_85, l32_90, l32_97, l32_99, l32_100, l32_110, l32_112, l32_122, l32_124, l32_125, l32_255, l32_680, l32_699, l32_700, l32_999, l32_2500, l32_99999, l32_100000, l32_1000000, if_true, if_false, ite_true, ite_false, ce_nm, Option.bind, if_pos, if_neg]; exact Nat.le_refl _) (Ev.some ⟨f1, M⟩)
/-- the class's rows laid anew -/
theorem x_hfresh {wt : Nat → Nat} {k F : Nat} {h : Hp} {G : Hp → Option Hp} {Q : Hp → Prop} (hF : 1000 ≤ F) (K : ∀ h', Fr (k + 1) (k + 6) h h' → CE h' k wt (fun _ _ => 0) → Ev (G h') Q) :
    Ev (Option.bind (f7_fill_53178 F (k + 1) 10 (-1 : Int32) h) (fun o5 =>
    Option.bind (f7_fill_53178 F (k + 2) 10 (-1 : Int32) o5) (fun o13 =>
      Option.bind (f7_fill_53178 F (k + 3) 10 (0 : Int32) o13) (fun o21 =>
        Option.bind (f7_fill_53178 F (k + 4) 10 (-1 : Int32) o21) (fun o29 =>
          Option.bind (f7_fill_53178 F (k + 5) 10 (1000000 : Int32) o29) (fun o38 =>
            Option.bind (f7_fill_53178 F (k + 6) 40 (1000000 : Int32) o38) G)))))) Q := by
  refine Ev.bind (x_fill (by omega) (by omega)) (fun h1 a1 => ?_)
  refine Ev.bind (x_fill (by omega) (by omega)) (fun h2 a2 => ?_)
  refine Ev.bind (x_fill (by omega) (by omega)) (fun h3 a3 => ?_)
  refine Ev.bind (x_fill (by omega) (by omega)) (fun h4 a4 => ?_)
  refine Ev.bind (x_fill (by omega) (by omega)) (fun h5 a5 => ?_)
  refine Ev.bind (x_fill (by omega) (by omega)) (fun h6 a6 => ?_)
  refine K h6 (fun c hc => ?_) ⟨fun e he => ?_, fun v hv => ⟨?_, ?_, ?_, ?_, ?_⟩⟩
  · rw [a6.1 c (by omega), a5.1 c (by omega), a4.1 c (by omega), a3.1 c (by omega), a2.1 c (by omega), a1.1 c (by omega)]
  · rw [a6.2 e he]; rfl
  · rw [a6.1 _ (by omega), a5.1 _ (by omega), a4.1 _ (by omega), a3.1 _ (by omega), a2.1 _ (by omega), a1.2 v hv]; rfl
  · rw [a6.1 _ (by omega), a5.1 _ (by omega), a4.1 _ (by omega), a3.1 _ (by omega), a2.2 v hv]; rfl
  · rw [a6.1 _ (by omega), a5.1 _ (by omega), a4.2 v hv]; rfl
  · rw [a6.1 _ (by omega), a5.2 v hv]; rfl
  · rw [a6.1 _ (by omega), a5.1 _ (by omega), a4.1 _ (by omega), a3.2 v hv]; rfl
