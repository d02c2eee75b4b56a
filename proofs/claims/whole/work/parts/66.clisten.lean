-- the class's node at a tick: listen
def CE (h : Hp) (k : Nat) (wt : Nat → Nat) (s : Es) : Prop := (∀ e, e < 40 → h (k + 6) e = ti 1000000 (s 0 e)) ∧ ∀ v, v < 10 → h (k + 1) v = fr (s 1 v) ∧ h (k + 2) v = fr (s 4 v) ∧ h (k + 4) v = fr (s 2 v) ∧ h (k + 5) v = (if s 3 v = 0 then nI 1000000 else nI (s 3 v - 1 + wt v)) ∧ h (k + 3) v = nI 0
theorem lp_ext {q : Nat → Bool} {n N : Nat} (hN : n ≤ N) (h : ∀ i, n ≤ i → i < N → q i = false) : lp q N = lp q n := by
  induction N with
  | zero => have : n = 0 := by omega
            rw [this]
  | succ N ih =>
    by_cases z : n = N + 1
    · rw [z]
    · rw [lp_succ, h N (by omega) (by omega)]
      exact ih (by omega) (fun i h1 h2 => h i h1 (by omega))
theorem x_listen_loop {m wt : Nat → Nat} {s : Es} {t v k kn F : Nat} {h : Hp} (w : Int32) (ok : OkG m) (hkn : ce_isNet kn) (cn : CNw h kn m) (C : CE h k wt s) (hb : ∀ e, e < 40 → s 0 e < 100000) (hv : v < m 2) (ht : t < 100000) (hF : 1000 ≤ F) :
    Ev (ce_it (fun (st : Int32 × Int32 × Int32 × Hp) => f3_listen_b30 F k kn (nI v) (nI t) w st.1 st.2.1 st.2.2.1 st.2.2.2) F ((0 : Int32), (-1 : Int32), (0 : Int32), h)) (fun o => o = (nI (ct (si (og m) s t v) 4), fr (if lp (si (og m) s t v) 4 = 0 then 0 else 4 * v + lp (si (og m) s t v) 4), h)) := by
  have h2 := ok.2.1
  have g := ok.2.2.2.1
  obtain ⟨n1, n2, n3, n4, n5⟩ := id cn
  have n3v := n3 v hv
  have hP := (ok.2.2.1 v hv).2
  have hout : ∀ i, m (5 + v) ≤ i → i < 4 → si (og m) s t v i = false := fun i h1 h3 => bo_f (fun q => by
    have := (ok.2.2.2.2 (4 * v + i) (by omega) q.1).2.1
    have e1 : (4 * v + i) % 4 = i := by omega
    have e2 : (4 * v + i) / 4 = v := by omega
    rw [e1, e2] at this
    omega)
  have c4 : ct (si (og m) s t v) 4 = ct (si (og m) s t v) (m (5 + v)) := ct_ext hP hout
  have l4 : lp (si (og m) s t v) 4 = lp (si (og m) s t v) (m (5 + v)) := lp_ext hP hout
  rw [c4, l4]
  refine Ev.it (I := fun i st => st = (nI (ct (si (og m) s t v) i), fr (if lp (si (og m) s t v) i = 0 then 0 else 4 * v + lp (si (og m) s t v) i), nI i, h)) _ (m (5 + v)) ?_ F 0 _ (by omega) (by omega) rfl
  rintro i st hi rfl
  show Ev (f3_listen_b30 F k kn (nI v) (nI t) w (nI (ct (si (og m) s t v) i)) (fr (if lp (si (og m) s t v) i = 0 then 0 else 4 * v + lp (si (og m) s t v) i)) (nI i) h) _
  unfold f3_listen_b30
  refine Ev.grd (by simp (disch := omega) only [up_s, up_k, up_j, mm_neg, mm_def, ni_lt, ni_le, ni_eq, ni_mm, mm_ni, ni_lt_mm, ni_le_mm, mm_lt_ni, mm_le_ni, mm_lt_mm, mm_le_mm, ni_cl, ni_in, nI_add, ni_mul, ni_div, ni_rem, ni_rem2, fr_sub, fr_mm, fr_ge0, fr_lt0, fr_inj, l32_0, l32_1, l32_2, l32_3, l32_4, l32_5, l32_6, l32_7, l32_8, l32_9, l32_10, l32_11, l32_12, l32_13, l32_14, l32_15, l32_16, l32_20, l32_24, l32_25, l32_26, l32_31, l32_32, l32_34, l32_35, l32_39, l32_40, l32_44, l32_45, l32_46, l32_47, l32_48, l32_49, l32_57, l32_58, l32_59, l32_63, l32_64, l32_85, l32_90, l32_97, l32_99, l32_100, l32_110, l32_112, l32_122, l32_124, l32_125, l32_255, l32_680, l32_699, l32_700, l32_999, l32_2500, l32_99999, l32_100000, l32_1000000, if_true, if_false, ite_true, ite_false, ce_nm, Option.bind, if_pos, if_neg]) ?_
  by_cases hin : m (5 + v) ≤ i
  · refine Ev.pos (by simp (disch := omega) only [up_s, up_k, up_j, mm_neg, mm_def, ni_lt, ni_le, ni_eq, ni_mm, mm_ni, ni_lt_mm, ni_le_mm, mm_lt_ni, mm_le_ni, mm_lt_mm, mm_le_mm, ni_cl, ni_in, nI_add, ni_mul, ni_div, ni_rem, ni_rem2, fr_sub, fr_mm, fr_ge0, fr_lt0, fr_inj, l32_0, l32_1, l32_2, l32_3, l32_4, l32_5, l32_6, l32_7, l32_8, l32_9, l32_10, l32_11, l32_12, l32_13, l32_14, l32_15, l32_16, l32_20, l32_24, l32_25, l32_26, l32_31, l32_32, l32_34, l32_35, l32_39, l32_40, l32_44, l32_45, l32_46, l32_47, l32_48, l32_49, l32_57, l32_58, l32_59, l32_63, l32_64, l32_85, l32_90, l32_97, l32_99, l32_100, l32_110, l32_112, l32_122, l32_124, l32_125, l32_255, l32_680, l32_699, l32_700, l32_999, l32_2500, l32_99999, l32_100000, l32_1000000, if_true, if_false, ite_true, ite_false, ce_nm, Option.bind, if_pos, if_neg, n3v]; exact hin) (Ev.some ?_)
    have : i = m (5 + v) := by omega
    rw [this]
  · refine Ev.neg (by simp (disch := omega) only [up_s, up_k, up_j, mm_neg, mm_def, ni_lt, ni_le, ni_eq, ni_mm, mm_ni, ni_lt_mm, ni_le_mm, mm_lt_ni, mm_le_ni, mm_lt_mm, mm_le_mm, ni_cl, ni_in, nI_add, ni_mul, ni_div, ni_rem, ni_rem2, fr_sub, fr_mm, fr_ge0, fr_lt0, fr_inj, l32_0, l32_1, l32_2, l32_3, l32_4, l32_5, l32_6, l32_7, l32_8, l32_9, l32_10, l32_11, l32_12, l32_13, l32_14, l32_15, l32_16, l32_20, l32_24, l32_25, l32_26, l32_31, l32_32, l32_34, l32_35, l32_39, l32_40, l32_44, l32_45, l32_46, l32_47, l32_48, l32_49, l32_57, l32_58, l32_59, l32_63, l32_64, l32_85, l32_90, l32_97, l32_99, l32_100, l32_110, l32_112, l32_122, l32_124, l32_125, l32_255, l32_680, l32_699, l32_700, l32_999, l32_2500, l32_99999, l32_100000, l32_1000000, if_true, if_false, ite_true, ite_false, ce_nm, Option.bind, if_pos, if_neg, n3v]; exact hin) ?_
    obtain ⟨e, he⟩ : ∃ e, e = 4 * v + i := ⟨_, rfl⟩
    have he40 : e < 40 := by omega
    have t1 := ct_succ (si (og m) s t v) i
    have t2 := lp_succ (si (og m) s t v) i
    have nxt : nI i + 1 = nI (i + 1) := nI_1 _
    rw [x_endOf, ← he]
    refine ev_bs ?_
    dsimp only
    have hog := og_le g he40
    rw [x_isCabled F kn e (og m e) h he40 (by omega) (n4 e he40)]
    refine ev_bs ?_
    dsimp only
    have hse : si (og m) s t v i = bo (og m e ≠ 0 ∧ (s 0 e = 0 ∨ t + 1 < s 0 e)) := by unfold si; rw [← he]
    by_cases hz : og m e = 0
    · have hf : si (og m) s t v i = false := by rw [hse]; exact bo_f (fun q => q.1 hz)
      rw [hf] at t1 t2
      rw [if_pos hz]
      refine Ev.pos rfl (Ev.some ⟨by omega, ?_⟩)
      rw [nxt, t1, t2]
      rfl
    · have hbe := hb e he40
      rw [if_neg hz]
      refine Ev.neg (by decide) (Ev.grd (by simp (disch := omega) only [up_s, up_k, up_j, mm_neg, mm_def, ni_lt, ni_le, ni_eq, ni_mm, mm_ni, ni_lt_mm, ni_le_mm, mm_lt_ni, mm_le_ni, mm_lt_mm, mm_le_mm, ni_cl, ni_in, nI_add, ni_mul, ni_div, ni_rem, ni_rem2, fr_sub, fr_mm, fr_ge0, fr_lt0, fr_inj, l32_0, l32_1, l32_2, l32_3, l32_4, l32_5, l32_6, l32_7, l32_8, l32_9, l32_10, l32_11, l32_12, l32_13, l32_14, l32_15, l32_16, l32_20, l32_24, l32_25, l32_26, l32_31, l32_32, l32_34, l32_35, l32_39, l32_40, l32_44, l32_45, l32_46, l32_47, l32_48, l32_49, l32_57, l32_58, l32_59, l32_63, l32_64, l32_85, l32_90, l32_97, l32_99, l32_100, l32_110, l32_112, l32_122, l32_124, l32_125, l32_255, l32_680, l32_699, l32_700, l32_999, l32_2500, l32_99999, l32_100000, l32_1000000, if_true, if_false, ite_true, ite_false, ce_nm, Option.bind, if_pos, if_neg]) ?_)
      rw [ni_cl (by omega)]
      by_cases hh : s 0 e ≠ 0 ∧ s 0 e ≤ t + 1
      · have hf : si (og m) s t v i = false := by rw [hse]; exact bo_f (fun q => by omega)
        rw [hf] at t1 t2
        refine Ev.pos (by rw [C.1 e he40, ti_le (by omega) (by omega) (by omega)]; exact hh) (Ev.some ⟨by omega, ?_⟩)
        rw [nxt, t1, t2]
        rfl
      · have hf : si (og m) s t v i = true := by rw [hse]; exact bo_p ⟨hz, by omega⟩
        rw [hf] at t1 t2
        refine Ev.neg (by rw [C.1 e he40, ti_le (by omega) (by omega) (by omega)]; exact hh) (Ev.some ⟨by omega, ?_⟩)
        rw [nxt, t1, t2, if_pos rfl, if_pos rfl, if_neg (by omega)]
        have e1 : nI (ct (si (og m) s t v) i) + 1 = nI (ct (si (og m) s t v) i + 1) := nI_1 _
        have e2 : fr (4 * v + (i + 1)) = nI e := by rw [he]; exact fr_s _
        rw [e1, e2]
