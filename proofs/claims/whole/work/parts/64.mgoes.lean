-- the reference's node at a tick: goes
def ti (big x : Nat) : Int32 := if x = 0 then nI big else nI (x - 1)
theorem ti_le {big x t : Nat} (hb : t < big) (hb2 : big < 2147483648) (hx : x < 2147483648) : (ti big x ≤ nI t) = (x ≠ 0 ∧ x ≤ t + 1) := by
  unfold ti
  by_cases z : x = 0
  · rw [if_pos z, ni_le (by omega) (by omega)]
    apply propext
    omega
  · rw [if_neg z, ni_le (by omega) (by omega)]
    apply propext
    omega
/-- the reference's rows of the election -/
def ME (h : Hp) (s : Es) : Prop := (∀ e, e < 40 → h 76 e = ti 100000 (s 0 e)) ∧ ∀ v, v < 10 → h 77 v = fr (s 1 v) ∧ h 78 v = fr (s 2 v) ∧ h 79 v = fr (s 3 v) ∧ h 80 v = fr (s 4 v)
/-- the waits of a net -/
def wtm (m : Nat → Nat) : Nat → Nat := fun v => if m (15 + v) = 0 then 0 else m 0
theorem lp_succ (q : Nat → Bool) (n : Nat) : lp q (n + 1) = if q n = true then n + 1 else lp q n := rfl
theorem x_goes_loop {m : Nat → Nat} {s : Es} {t v F : Nat} {h : Hp} (ok : OkG m) (c : MN h m) (M : ME h s) (hb : ∀ e, e < 40 → s 0 e < 100000) (hv : v < m 2) (ht : t < 700) (hF : 1000 ≤ F) :
    Ev (ce_it (fun (st : Int32 × Int32 × Int32 × Hp) => f12_goes_b10 F (nI v) (nI t) st.1 st.2.1 st.2.2.1 st.2.2.2) F ((0 : Int32), (-1 : Int32), (4 : Int32) * nI v, h)) (fun o => o = (nI (ct (si (og m) s t v) 4), fr (if lp (si (og m) s t v) 4 = 0 then 0 else 4 * v + lp (si (og m) s t v) 4), h)) := by
  have h2 := ok.2.1
  have g := ok.2.2.2.1
  have m4 : (4 : Int32) * nI v = nI (4 * v) := pk_mul 4 v
  rw [m4]
  refine Ev.it (I := fun i st => st = (nI (ct (si (og m) s t v) i), fr (if lp (si (og m) s t v) i = 0 then 0 else 4 * v + lp (si (og m) s t v) i), nI (4 * v + i), h)) _ 4 ?_ F 0 _ (by omega) (by omega) rfl
  rintro i st hi rfl
  show Ev (f12_goes_b10 F (nI v) (nI t) (nI (ct (si (og m) s t v) i)) (fr (if lp (si (og m) s t v) i = 0 then 0 else 4 * v + lp (si (og m) s t v) i)) (nI (4 * v + i)) h) _
  unfold f12_goes_b10
  rw [m4]
  by_cases hin : 4 ≤ i
  · refine Ev.pos (by simp (disch := omega) only [up_s, up_k, up_j, mm_neg, mm_def, ni_lt, ni_le, ni_eq, ni_mm, mm_ni, ni_lt_mm, ni_le_mm, mm_lt_ni, mm_le_ni, mm_lt_mm, mm_le_mm, ni_cl, ni_in, nI_add, ni_mul, ni_div, ni_rem, ni_rem2, fr_sub, fr_mm, fr_ge0, fr_lt0, fr_inj, l32_0, l32_1, l32_2, l32_3, l32_4, l32_5, l32_6, l32_7, l32_8, l32_9, l32_10, l32_11, l32_12, l32_13, l32_14, l32_15, l32_16, l32_20, l32_24, l32_25, l32_26, l32_31, l32_32, l32_34, l32_35, l32_39, l32_40, l32_44, l32_45, l32_46, l32_47, l32_48, l32_49, l32_57, l32_58, l32_59, l32_63, l32_64, l32_85, l32_90, l32_97, l32_99, l32_100, l32_110, l32_112, l32_122, l32_124, l32_125, l32_255, l32_680, l32_699, l32_700, l32_999, l32_2500, l32_99999, l32_100000, l32_1000000, if_true, if_false, ite_true, ite_false, ce_nm, Option.bind, if_pos, if_neg]; omega) (Ev.some ?_)
    have : i = 4 := by omega
    rw [this]
  · refine Ev.neg (by simp (disch := omega) only [up_s, up_k, up_j, mm_neg, mm_def, ni_lt, ni_le, ni_eq, ni_mm, mm_ni, ni_lt_mm, ni_le_mm, mm_lt_ni, mm_le_ni, mm_lt_mm, mm_le_mm, ni_cl, ni_in, nI_add, ni_mul, ni_div, ni_rem, ni_rem2, fr_sub, fr_mm, fr_ge0, fr_lt0, fr_inj, l32_0, l32_1, l32_2, l32_3, l32_4, l32_5, l32_6, l32_7, l32_8, l32_9, l32_10, l32_11, l32_12, l32_13, l32_14, l32_15, l32_16, l32_20, l32_24, l32_25, l32_26, l32_31, l32_32, l32_34, l32_35, l32_39, l32_40, l32_44, l32_45, l32_46, l32_47, l32_48, l32_49, l32_57, l32_58, l32_59, l32_63, l32_64, l32_85, l32_90, l32_97, l32_99, l32_100, l32_110, l32_112, l32_122, l32_124, l32_125, l32_255, l32_680, l32_699, l32_700, l32_999, l32_2500, l32_99999, l32_100000, l32_1000000, if_true, if_false, ite_true, ite_false, ce_nm, Option.bind, if_pos, if_neg]; omega) ?_
    obtain ⟨e, he⟩ : ∃ e, e = 4 * v + i := ⟨_, rfl⟩
    have he40 : e < 40 := by omega
    have t1 := ct_succ (si (og m) s t v) i
    have t2 := lp_succ (si (og m) s t v) i
    have nxt : nI (4 * v + i) + 1 = nI (4 * v + (i + 1)) := nI_1 _
    rw [← he] at nxt ⊢
    rw [x_otherOf c he40]
    refine ev_bs ?_
    dsimp only
    have hog := og_le g he40
    have hse : si (og m) s t v i = bo (og m e ≠ 0 ∧ (s 0 e = 0 ∨ t + 1 < s 0 e)) := by unfold si; rw [← he]
    by_cases hz : og m e = 0
    · have hf : si (og m) s t v i = false := by rw [hse]; exact bo_f (fun q => q.1 hz)
      rw [hf] at t1 t2
      refine Ev.pos (by simp (disch := omega) only [up_s, up_k, up_j, mm_neg, mm_def, ni_lt, ni_le, ni_eq, ni_mm, mm_ni, ni_lt_mm, ni_le_mm, mm_lt_ni, mm_le_ni, mm_lt_mm, mm_le_mm, ni_cl, ni_in, nI_add, ni_mul, ni_div, ni_rem, ni_rem2, fr_sub, fr_mm, fr_ge0, fr_lt0, fr_inj, l32_0, l32_1, l32_2, l32_3, l32_4, l32_5, l32_6, l32_7, l32_8, l32_9, l32_10, l32_11, l32_12, l32_13, l32_14, l32_15, l32_16, l32_20, l32_24, l32_25, l32_26, l32_31, l32_32, l32_34, l32_35, l32_39, l32_40, l32_44, l32_45, l32_46, l32_47, l32_48, l32_49, l32_57, l32_58, l32_59, l32_63, l32_64, l32_85, l32_90, l32_97, l32_99, l32_100, l32_110, l32_112, l32_122, l32_124, l32_125, l32_255, l32_680, l32_699, l32_700, l32_999, l32_2500, l32_99999, l32_100000, l32_1000000, if_true, if_false, ite_true, ite_false, ce_nm, Option.bind, if_pos, if_neg]; exact hz) (Ev.some ⟨by omega, ?_⟩)
      rw [nxt, t1, t2]
      rfl
    · have hbe := hb e he40
      refine Ev.neg (by simp (disch := omega) only [up_s, up_k, up_j, mm_neg, mm_def, ni_lt, ni_le, ni_eq, ni_mm, mm_ni, ni_lt_mm, ni_le_mm, mm_lt_ni, mm_le_ni, mm_lt_mm, mm_le_mm, ni_cl, ni_in, nI_add, ni_mul, ni_div, ni_rem, ni_rem2, fr_sub, fr_mm, fr_ge0, fr_lt0, fr_inj, l32_0, l32_1, l32_2, l32_3, l32_4, l32_5, l32_6, l32_7, l32_8, l32_9, l32_10, l32_11, l32_12, l32_13, l32_14, l32_15, l32_16, l32_20, l32_24, l32_25, l32_26, l32_31, l32_32, l32_34, l32_35, l32_39, l32_40, l32_44, l32_45, l32_46, l32_47, l32_48, l32_49, l32_57, l32_58, l32_59, l32_63, l32_64, l32_85, l32_90, l32_97, l32_99, l32_100, l32_110, l32_112, l32_122, l32_124, l32_125, l32_255, l32_680, l32_699, l32_700, l32_999, l32_2500, l32_99999, l32_100000, l32_1000000, if_true, if_false, ite_true, ite_false, ce_nm, Option.bind, if_pos, if_neg]; exact hz) (Ev.grd (by simp (disch := omega) only [up_s, up_k, up_j, mm_neg, mm_def, ni_lt, ni_le, ni_eq, ni_mm, mm_ni, ni_lt_mm, ni_le_mm, mm_lt_ni, mm_le_ni, mm_lt_mm, mm_le_mm, ni_cl, ni_in, nI_add, ni_mul, ni_div, ni_rem, ni_rem2, fr_sub, fr_mm, fr_ge0, fr_lt0, fr_inj, l32_0, l32_1, l32_2, l32_3, l32_4, l32_5, l32_6, l32_7, l32_8, l32_9, l32_10, l32_11, l32_12, l32_13, l32_14, l32_15, l32_16, l32_20, l32_24, l32_25, l32_26, l32_31, l32_32, l32_34, l32_35, l32_39, l32_40, l32_44, l32_45, l32_46, l32_47, l32_48, l32_49, l32_57, l32_58, l32_59, l32_63, l32_64, l32_85, l32_90, l32_97, l32_99, l32_100, l32_110, l32_112, l32_122, l32_124, l32_125, l32_255, l32_680, l32_699, l32_700, l32_999, l32_2500, l32_99999, l32_100000, l32_1000000, if_true, if_false, ite_true, ite_false, ce_nm, Option.bind, if_pos, if_neg]) ?_)
      rw [ni_cl (by omega)]
      by_cases hh : s 0 e ≠ 0 ∧ s 0 e ≤ t + 1
      · have hf : si (og m) s t v i = false := by rw [hse]; exact bo_f (fun q => by omega)
        rw [hf] at t1 t2
        refine Ev.pos (by rw [M.1 e he40, ti_le (by omega) (by omega) (by omega)]; exact hh) (Ev.some ⟨by omega, ?_⟩)
        rw [nxt, t1, t2]
        rfl
      · have hf : si (og m) s t v i = true := by rw [hse]; exact bo_p ⟨hz, by omega⟩
        rw [hf] at t1 t2
        refine Ev.neg (by rw [M.1 e he40, ti_le (by omega) (by omega) (by omega)]; exact hh) (Ev.some ⟨by omega, ?_⟩)
        rw [nxt, t1, t2, if_pos rfl, if_pos rfl, if_neg (by omega)]
        have e1 : nI (ct (si (og m) s t v) i) + 1 = nI (ct (si (og m) s t v) i + 1) := nI_1 _
        have e2 : fr (4 * v + (i + 1)) = nI e := by rw [he]; exact fr_s _
        rw [e1, e2]
/-- a call, written -/
theorem ME_cl {o m : Nat → Nat} {s : Es} {t v p : Nat} {h : Hp} (M : ME h s) : ME (hp_up (hp_up (hp_up h 77 v (nI t)) 78 v (nI (4 * v + p))) 76 (o (4 * v + p) - 1) (nI (t + m (85 + (4 * v + p))))) (cl o m t v p s) := by
  unfold cl
  refine ⟨fun e he => ?_, fun w hw => ?_⟩
  · by_cases z : e = o (4 * v + p) - 1
    · rw [z, up_s, u2_s]
      unfold ti
      rw [if_neg (by omega)]
      rfl
    · rw [up_j _ _ _ _ _ z, up_k _ _ _ _ _ _ (by omega), up_k _ _ _ _ _ _ (by omega), u2_j z, u2_k (by omega), u2_k (by omega)]
      exact M.1 e he
  · obtain ⟨m1, m2, m3, m4⟩ := M.2 w hw
    refine ⟨?_, ?_, ?_, ?_⟩
    · rw [up_k _ _ _ _ _ _ (by omega), up_k _ _ _ _ _ _ (by omega), u2_k (by omega), u2_k (by omega)]
      by_cases z : w = v
      · rw [z, up_s, u2_s]; exact (fr_s t).symm
      · rw [up_j _ _ _ _ _ z, u2_j z]; exact m1
    · rw [up_k _ _ _ _ _ _ (by omega), u2_k (by omega)]
      by_cases z : w = v
      · rw [z, up_s, u2_s]; exact (fr_s _).symm
      · rw [up_j _ _ _ _ _ z, up_k _ _ _ _ _ _ (by omega), u2_j z, u2_k (by omega)]; exact m2
    · rw [up_k _ _ _ _ _ _ (by omega), up_k _ _ _ _ _ _ (by omega), up_k _ _ _ _ _ _ (by omega), u2_k (by omega), u2_k (by omega), u2_k (by omega)]; exact m3
    · rw [up_k _ _ _ _ _ _ (by omega), up_k _ _ _ _ _ _ (by omega), up_k _ _ _ _ _ _ (by omega), u2_k (by omega), u2_k (by omega), u2_k (by omega)]; exact m4
/-- goes -/
theorem x_goes {m : Nat → Nat} {s : Es} {t v F : Nat} {h : Hp} (ok : OkG m) (hw : m 0 ≤ 20) (hf : ∀ v, v < m 2 → m (15 + v) ≤ 1) (c : MN h m) (M : ME h s) (E : EM (og m) m (wtm m) t v s) (hv : v < m 2) (ht : t < 700) (d1 : s 1 v = 0) (d4 : s 4 v = 0) (hF : 1000 ≤ F) :
    Ev (f12_goes F (nI v) (nI t) h) (fun h' => Fr 76 80 h h' ∧ ME h' (es (og m) m (wtm m) t v s)) := by
  have h2 := ok.2.1
  have g := ok.2.2.2.1
  have hv10 : v < 10 := by omega
  obtain ⟨e1, e2, e3, e4, e5, e6, e7, e8, e9, e10⟩ := E
  have hb : ∀ e, e < 40 → s 0 e < 100000 := fun e he => by have := e7 e he; omega
  unfold f12_goes
  refine Ev.bind (x_goes_loop ok c M hb hv ht hF) (fun o ho => ?_)
  subst ho
  dsimp only
  have hc4 := ct_le (si (og m) s t v) 4
  have lps := lp_spec (si (og m) s t v) 4
  have hes : es (og m) m (wtm m) t v s = (if ct (si (og m) s t v) 4 = 0 then u2 s 4 v (t + 1) else if ct (si (og m) s t v) 4 = 1 then (if (if s 3 v = 0 then t else s 3 v - 1) + wtm m v ≤ t then cl (og m) m t v (lp (si (og m) s t v) 4 - 1) (u2 s 3 v (if s 3 v = 0 then t + 1 else s 3 v)) else u2 s 3 v (if s 3 v = 0 then t + 1 else s 3 v)) else s) := by
    unfold es
    rw [if_neg (by omega)]
  rw [hes]
  have sit : ∀ p, si (og m) s t v p = true → og m (4 * v + p) ≠ 0 := fun p hp => (si_t.mp hp).1
  generalize ct (si (og m) s t v) 4 = n4 at hc4 lps ⊢
  generalize hlp : lp (si (og m) s t v) 4 = l4 at lps ⊢
  by_cases c0 : n4 = 0
  · rw [if_pos c0]
    refine Ev.pos (by rw [c0]; rfl) (Ev.grd (by simp (disch := omega) only [up_s, up_k, up_j, mm_neg, mm_def, ni_lt, ni_le, ni_eq, ni_mm, mm_ni, ni_lt_mm, ni_le_mm, mm_lt_ni, mm_le_ni, mm_lt_mm, mm_le_mm, ni_cl, ni_in, nI_add, ni_mul, ni_div, ni_rem, ni_rem2, fr_sub, fr_mm, fr_ge0, fr_lt0, fr_inj, l32_0, l32_1, l32_2, l32_3, l32_4, l32_5, l32_6, l32_7, l32_8, l32_9, l32_10, l32_11, l32_12, l32_13, l32_14, l32_15, l32_16, l32_20, l32_24, l32_25, l32_26, l32_31, l32_32, l32_34, l32_35, l32_39, l32_40, l32_44, l32_45, l32_46, l32_47, l32_48, l32_49, l32_57, l32_58, l32_59, l32_63, l32_64, l32_85, l32_90, l32_97, l32_99, l32_100, l32_110, l32_112, l32_122, l32_124, l32_125, l32_255, l32_680, l32_699, l32_700, l32_999, l32_2500, l32_99999, l32_100000, l32_1000000, if_true, if_false, ite_true, ite_false, ce_nm, Option.bind, if_pos, if_neg]) (Ev.nm ?_))
    unfold f12_goes_j64
    refine Ev.neg (by rw [c0]; decide) (Ev.some ⟨(up_fr _ _ _ _).wide (by omega) (by omega), ?_⟩)
    rw [ni_cl (by omega)]
    refine ⟨fun e he => ?_, fun w hw' => ?_⟩
    · rw [up_k _ _ _ _ _ _ (by omega), u2_k (by omega)]; exact M.1 e he
    · obtain ⟨m1, m2, m3, m4⟩ := M.2 w hw'
      rw [up_k _ _ _ _ _ _ (by omega), up_k _ _ _ _ _ _ (by omega), up_k _ _ _ _ _ _ (by omega), u2_k (by omega), u2_k (by omega), u2_k (by omega)]
      refine ⟨m1, m2, m3, ?_⟩
      by_cases z : w = v
      · rw [z, up_s, u2_s]; exact (fr_s t).symm
      · rw [up_j _ _ _ _ _ z, u2_j z]; exact m4
  · rw [if_neg c0]
    refine Ev.neg (by simp (disch := omega) only [up_s, up_k, up_j, mm_neg, mm_def, ni_lt, ni_le, ni_eq, ni_mm, mm_ni, ni_lt_mm, ni_le_mm, mm_lt_ni, mm_le_ni, mm_lt_mm, mm_le_mm, ni_cl, ni_in, nI_add, ni_mul, ni_div, ni_rem, ni_rem2, fr_sub, fr_mm, fr_ge0, fr_lt0, fr_inj, l32_0, l32_1, l32_2, l32_3, l32_4, l32_5, l32_6, l32_7, l32_8, l32_9, l32_10, l32_11, l32_12, l32_13, l32_14, l32_15, l32_16, l32_20, l32_24, l32_25, l32_26, l32_31, l32_32, l32_34, l32_35, l32_39, l32_40, l32_44, l32_45, l32_46, l32_47, l32_48, l32_49, l32_57, l32_58, l32_59, l32_63, l32_64, l32_85, l32_90, l32_97, l32_99, l32_100, l32_110, l32_112, l32_122, l32_124, l32_125, l32_255, l32_680, l32_699, l32_700, l32_999, l32_2500, l32_99999, l32_100000, l32_1000000, if_true, if_false, ite_true, ite_false, ce_nm, Option.bind, if_pos, if_neg]; exact c0) ?_
    unfold f12_goes_j64
    by_cases c1 : n4 = 1
    · rw [if_pos c1]
      refine Ev.pos (by rw [c1]; rfl) (Ev.grd (by simp (disch := omega) only [up_s, up_k, up_j, mm_neg, mm_def, ni_lt, ni_le, ni_eq, ni_mm, mm_ni, ni_lt_mm, ni_le_mm, mm_lt_ni, mm_le_ni, mm_lt_mm, mm_le_mm, ni_cl, ni_in, nI_add, ni_mul, ni_div, ni_rem, ni_rem2, fr_sub, fr_mm, fr_ge0, fr_lt0, fr_inj, l32_0, l32_1, l32_2, l32_3, l32_4, l32_5, l32_6, l32_7, l32_8, l32_9, l32_10, l32_11, l32_12, l32_13, l32_14, l32_15, l32_16, l32_20, l32_24, l32_25, l32_26, l32_31, l32_32, l32_34, l32_35, l32_39, l32_40, l32_44, l32_45, l32_46, l32_47, l32_48, l32_49, l32_57, l32_58, l32_59, l32_63, l32_64, l32_85, l32_90, l32_97, l32_99, l32_100, l32_110, l32_112, l32_122, l32_124, l32_125, l32_255, l32_680, l32_699, l32_700, l32_999, l32_2500, l32_99999, l32_100000, l32_1000000, if_true, if_false, ite_true, ite_false, ce_nm, Option.bind, if_pos, if_neg]) ?_)
      rw [ni_cl (by omega)]
      have lz : l4 ≠ 0 := fun z => by have := lps.2.2 z; omega
      have le4 := lps.1
      have s5 := e5 v hv10
      obtain ⟨ab, hab⟩ : ∃ ab, ab = (if s 3 v = 0 then t + 1 else s 3 v) := ⟨_, rfl⟩
      have hab1 : (if s 3 v = 0 then t else s 3 v - 1) = ab - 1 := by
        rw [hab]
        by_cases z : s 3 v = 0
        · rw [if_pos z, if_pos z]; rfl
        · rw [if_neg z, if_neg z]
      have hab0 : ab ≠ 0 := by
        rw [hab]
        by_cases z : s 3 v = 0
        · rw [if_pos z]; omega
        · rw [if_neg z]; exact z
      have habt : ab ≤ t + 1 := by
        rw [hab]
        by_cases z : s 3 v = 0
        · rw [if_pos z]; omega
        · rw [if_neg z]; omega
      have hdue : t ≤ ab - 1 + wtm m v := by
        rw [hab]
        by_cases z : s 3 v = 0
        · rw [if_pos z]; omega
        · rw [if_neg z]; exact e6 v hv10 z d1 d4
      rw [hab1, ← hab, if_neg lz]
      obtain ⟨p, hp⟩ : ∃ p, l4 = p + 1 := ⟨l4 - 1, by omega⟩
      have psi := lps.2.1 lz
      rw [hp] at psi ⊢
      rw [show p + 1 - 1 = p from rfl] at psi ⊢
      have q1 := sit p psi
      obtain ⟨e0, he0⟩ : ∃ e0, e0 = 4 * v + p := ⟨_, rfl⟩
      have fx : fr (4 * v + (p + 1)) = nI e0 := by rw [he0]; exact fr_s _
      rw [fx]
      rw [← he0] at q1
      have he40 : e0 < 40 := by omega
      have core : Ev (f12_goes_j94 F (nI v) (nI t) (nI e0) (nI (ab - 1)) (nI v) h) (fun h' => Fr 76 80 h h' ∧ ME h' (if ab - 1 + wtm m v ≤ t then cl (og m) m t v p (u2 s 3 v ab) else u2 s 3 v ab)) := by
        unfold f12_goes_j94
        refine Ev.grd (by simp (disch := omega) only [up_s, up_k, up_j, mm_neg, mm_def, ni_lt, ni_le, ni_eq, ni_mm, mm_ni, ni_lt_mm, ni_le_mm, mm_lt_ni, mm_le_ni, mm_lt_mm, mm_le_mm, ni_cl, ni_in, nI_add, ni_mul, ni_div, ni_rem, ni_rem2, fr_sub, fr_mm, fr_ge0, fr_lt0, fr_inj, l32_0, l32_1, l32_2, l32_3, l32_4, l32_5, l32_6, l32_7, l32_8, l32_9, l32_10, l32_11, l32_12, l32_13, l32_14, l32_15, l32_16, l32_20, l32_24, l32_25, l32_26, l32_31, l32_32, l32_34, l32_35, l32_39, l32_40, l32_44, l32_45, l32_46, l32_47, l32_48, l32_49, l32_57, l32_58, l32_59, l32_63, l32_64, l32_85, l32_90, l32_97, l32_99, l32_100, l32_110, l32_112, l32_122, l32_124, l32_125, l32_255, l32_680, l32_699, l32_700, l32_999, l32_2500, l32_99999, l32_100000, l32_1000000, if_true, if_false, ite_true, ite_false, ce_nm, Option.bind, if_pos, if_neg]) (Ev.nm (Ev.grd (by simp (disch := omega) only [up_s, up_k, up_j, mm_neg, mm_def, ni_lt, ni_le, ni_eq, ni_mm, mm_ni, ni_lt_mm, ni_le_mm, mm_lt_ni, mm_le_ni, mm_lt_mm, mm_le_mm, ni_cl, ni_in, nI_add, ni_mul, ni_div, ni_rem, ni_rem2, fr_sub, fr_mm, fr_ge0, fr_lt0, fr_inj, l32_0, l32_1, l32_2, l32_3, l32_4, l32_5, l32_6, l32_7, l32_8, l32_9, l32_10, l32_11, l32_12, l32_13, l32_14, l32_15, l32_16, l32_20, l32_24, l32_25, l32_26, l32_31, l32_32, l32_34, l32_35, l32_39, l32_40, l32_44, l32_45, l32_46, l32_47, l32_48, l32_49, l32_57, l32_58, l32_59, l32_63, l32_64, l32_85, l32_90, l32_97, l32_99, l32_100, l32_110, l32_112, l32_122, l32_124, l32_125, l32_255, l32_680, l32_699, l32_700, l32_999, l32_2500, l32_99999, l32_100000, l32_1000000, if_true, if_false, ite_true, ite_false, ce_nm, Option.bind, if_pos, if_neg]) ?_))
        rw [ni_cl (by omega)]
        obtain ⟨h1, eh1⟩ : ∃ z, z = hp_up h 79 v (nI (ab - 1)) := ⟨_, rfl⟩
        rw [← eh1]
        have f1 : Fr 76 80 h h1 := by rw [eh1]; exact (up_fr _ _ _ _).wide (by omega) (by omega)
        have M1 : ME h1 (u2 s 3 v ab) := by
          rw [eh1]
          refine ⟨fun e he => ?_, fun w hw' => ?_⟩
          · rw [up_k _ _ _ _ _ _ (by omega), u2_k (by omega)]; exact M.1 e he
          · obtain ⟨m1, m2, m3, m4⟩ := M.2 w hw'
            refine ⟨by rw [up_k _ _ _ _ _ _ (by omega), u2_k (by omega)]; exact m1, by rw [up_k _ _ _ _ _ _ (by omega), u2_k (by omega)]; exact m2, ?_, by rw [up_k _ _ _ _ _ _ (by omega), u2_k (by omega)]; exact m4⟩
            by_cases z : w = v
            · rw [z, up_s, u2_s, fr_p (by omega)]
            · rw [up_j _ _ _ _ _ z, u2_j z]; exact m3
        have c1' := c.fr f1 (by omega)
        have fwo : fr (og m e0) = nI (og m e0 - 1) := fr_p (by omega)
        have hog := og_le g he40
        have m85 := (ok.2.2.2.2 e0 he40 q1).2.2.2.1
        have e15 : h1 69 ((15 : Int32) + nI v).toNatClampNeg = nI (m (15 + v)) := by
          rw [show (15 : Int32) + nI v = nI (15 + v) from nI_add 15 v, ni_cl (by omega)]
          exact c1' (15 + v) (by omega)
        have hfv := hf v hv
        rw [e15]
        by_cases hfo : m (15 + v) = 0
        · have hwz : wtm m v = 0 := by unfold wtm; rw [if_pos hfo]
          have hd : ab - 1 + wtm m v ≤ t := by omega
          rw [if_pos hd]
          refine Ev.pos (by rw [hfo]; rfl) ?_
          refine Ev.grd (by simp (disch := omega) only [up_s, up_k, up_j, mm_neg, mm_def, ni_lt, ni_le, ni_eq, ni_mm, mm_ni, ni_lt_mm, ni_le_mm, mm_lt_ni, mm_le_ni, mm_lt_mm, mm_le_mm, ni_cl, ni_in, nI_add, ni_mul, ni_div, ni_rem, ni_rem2, fr_sub, fr_mm, fr_ge0, fr_lt0, fr_inj, l32_0, l32_1, l32_2, l32_3, l32_4, l32_5, l32_6, l32_7, l32_8, l32_9, l32_10, l32_11, l32_12, l32_13, l32_14, l32_15, l32_16, l32_20, l32_24, l32_25, l32_26, l32_31, l32_32, l32_34, l32_35, l32_39, l32_40, l32_44, l32_45, l32_46, l32_47, l32_48, l32_49, l32_57, l32_58, l32_59, l32_63, l32_64, l32_85, l32_90, l32_97, l32_99, l32_100, l32_110, l32_112, l32_122, l32_124, l32_125, l32_255, l32_680, l32_699, l32_700, l32_999, l32_2500, l32_99999, l32_100000, l32_1000000, if_true, if_false, ite_true, ite_false, ce_nm, Option.bind, if_pos, if_neg]) (Ev.nm (Ev.grd (by simp (disch := omega) only [up_s, up_k, up_j, mm_neg, mm_def, ni_lt, ni_le, ni_eq, ni_mm, mm_ni, ni_lt_mm, ni_le_mm, mm_lt_ni, mm_le_ni, mm_lt_mm, mm_le_mm, ni_cl, ni_in, nI_add, ni_mul, ni_div, ni_rem, ni_rem2, fr_sub, fr_mm, fr_ge0, fr_lt0, fr_inj, l32_0, l32_1, l32_2, l32_3, l32_4, l32_5, l32_6, l32_7, l32_8, l32_9, l32_10, l32_11, l32_12, l32_13, l32_14, l32_15, l32_16, l32_20, l32_24, l32_25, l32_26, l32_31, l32_32, l32_34, l32_35, l32_39, l32_40, l32_44, l32_45, l32_46, l32_47, l32_48, l32_49, l32_57, l32_58, l32_59, l32_63, l32_64, l32_85, l32_90, l32_97, l32_99, l32_100, l32_110, l32_112, l32_122, l32_124, l32_125, l32_255, l32_680, l32_699, l32_700, l32_999, l32_2500, l32_99999, l32_100000, l32_1000000, if_true, if_false, ite_true, ite_false, ce_nm, Option.bind, if_pos, if_neg]) (Ev.nm ?_)))
          have c2 : MN (hp_up (hp_up h1 77 v (nI t)) 78 v (nI e0)) m := (c1'.fr (up_fr _ 77 _ _) (by omega)).fr (up_fr _ 78 _ _) (by omega)
          rw [x_otherOf c2 he40]
          refine ev_bs ?_
          dsimp only
          have c85 := c2 (85 + e0) (by omega)
          rw [fwo]
          refine Ev.grd (by simp (disch := omega) only [up_s, up_k, up_j, mm_neg, mm_def, ni_lt, ni_le, ni_eq, ni_mm, mm_ni, ni_lt_mm, ni_le_mm, mm_lt_ni, mm_le_ni, mm_lt_mm, mm_le_mm, ni_cl, ni_in, nI_add, ni_mul, ni_div, ni_rem, ni_rem2, fr_sub, fr_mm, fr_ge0, fr_lt0, fr_inj, l32_0, l32_1, l32_2, l32_3, l32_4, l32_5, l32_6, l32_7, l32_8, l32_9, l32_10, l32_11, l32_12, l32_13, l32_14, l32_15, l32_16, l32_20, l32_24, l32_25, l32_26, l32_31, l32_32, l32_34, l32_35, l32_39, l32_40, l32_44, l32_45, l32_46, l32_47, l32_48, l32_49, l32_57, l32_58, l32_59, l32_63, l32_64, l32_85, l32_90, l32_97, l32_99, l32_100, l32_110, l32_112, l32_122, l32_124, l32_125, l32_255, l32_680, l32_699, l32_700, l32_999, l32_2500, l32_99999, l32_100000, l32_1000000, if_true, if_false, ite_true, ite_false, ce_nm, Option.bind, if_pos, if_neg]) (Ev.grd (by simp (disch := omega) only [up_s, up_k, up_j, mm_neg, mm_def, ni_lt, ni_le, ni_eq, ni_mm, mm_ni, ni_lt_mm, ni_le_mm, mm_lt_ni, mm_le_ni, mm_lt_mm, mm_le_mm, ni_cl, ni_in, nI_add, ni_mul, ni_div, ni_rem, ni_rem2, fr_sub, fr_mm, fr_ge0, fr_lt0, fr_inj, l32_0, l32_1, l32_2, l32_3, l32_4, l32_5, l32_6, l32_7, l32_8, l32_9, l32_10, l32_11, l32_12, l32_13, l32_14, l32_15, l32_16, l32_20, l32_24, l32_25, l32_26, l32_31, l32_32, l32_34, l32_35, l32_39, l32_40, l32_44, l32_45, l32_46, l32_47, l32_48, l32_49, l32_57, l32_58, l32_59, l32_63, l32_64, l32_85, l32_90, l32_97, l32_99, l32_100, l32_110, l32_112, l32_122, l32_124, l32_125, l32_255, l32_680, l32_699, l32_700, l32_999, l32_2500, l32_99999, l32_100000, l32_1000000, if_true, if_false, ite_true, ite_false, ce_nm, Option.bind, if_pos, if_neg]) (Ev.nm (Ev.some ⟨?_, ?_⟩)))
          · exact ((f1.trans ((up_fr _ 77 _ _).wide (by omega) (by omega))).trans ((up_fr _ 78 _ _).wide (by omega) (by omega))).trans ((up_fr _ 76 _ _).wide (by omega) (by omega))
          · have ex : nI t + hp_up (hp_up h1 77 v (nI t)) 78 v (nI e0) 69 ((85 : Int32) + nI e0).toNatClampNeg = nI (t + m (85 + e0)) := by
              rw [show (85 : Int32) + nI e0 = nI (85 + e0) from nI_add 85 e0, ni_cl (by omega), c85]
              exact nI_add _ _
            rw [ex, ni_cl (by omega), he0]
            exact ME_cl M1
        · have hwz : wtm m v = m 0 := by unfold wtm; rw [if_neg hfo]
          refine Ev.neg (by simp (disch := omega) only [up_s, up_k, up_j, mm_neg, mm_def, ni_lt, ni_le, ni_eq, ni_mm, mm_ni, ni_lt_mm, ni_le_mm, mm_lt_ni, mm_le_ni, mm_lt_mm, mm_le_mm, ni_cl, ni_in, nI_add, ni_mul, ni_div, ni_rem, ni_rem2, fr_sub, fr_mm, fr_ge0, fr_lt0, fr_inj, l32_0, l32_1, l32_2, l32_3, l32_4, l32_5, l32_6, l32_7, l32_8, l32_9, l32_10, l32_11, l32_12, l32_13, l32_14, l32_15, l32_16, l32_20, l32_24, l32_25, l32_26, l32_31, l32_32, l32_34, l32_35, l32_39, l32_40, l32_44, l32_45, l32_46, l32_47, l32_48, l32_49, l32_57, l32_58, l32_59, l32_63, l32_64, l32_85, l32_90, l32_97, l32_99, l32_100, l32_110, l32_112, l32_122, l32_124, l32_125, l32_255, l32_680, l32_699, l32_700, l32_999, l32_2500, l32_99999, l32_100000, l32_1000000, if_true, if_false, ite_true, ite_false, ce_nm, Option.bind, if_pos, if_neg]; exact hfo) (Ev.grd (by simp (disch := omega) only [up_s, up_k, up_j, mm_neg, mm_def, ni_lt, ni_le, ni_eq, ni_mm, mm_ni, ni_lt_mm, ni_le_mm, mm_lt_ni, mm_le_ni, mm_lt_mm, mm_le_mm, ni_cl, ni_in, nI_add, ni_mul, ni_div, ni_rem, ni_rem2, fr_sub, fr_mm, fr_ge0, fr_lt0, fr_inj, l32_0, l32_1, l32_2, l32_3, l32_4, l32_5, l32_6, l32_7, l32_8, l32_9, l32_10, l32_11, l32_12, l32_13, l32_14, l32_15, l32_16, l32_20, l32_24, l32_25, l32_26, l32_31, l32_32, l32_34, l32_35, l32_39, l32_40, l32_44, l32_45, l32_46, l32_47, l32_48, l32_49, l32_57, l32_58, l32_59, l32_63, l32_64, l32_85, l32_90, l32_97, l32_99, l32_100, l32_110, l32_112, l32_122, l32_124, l32_125, l32_255, l32_680, l32_699, l32_700, l32_999, l32_2500, l32_99999, l32_100000, l32_1000000, if_true, if_false, ite_true, ite_false, ce_nm, Option.bind, if_pos, if_neg]) ?_)
          have e79 : h1 79 v + h1 69 (0 : Int32).toNatClampNeg = nI (ab - 1 + m 0) := by
            rw [show h1 79 v = nI (ab - 1) by rw [eh1, up_s], show h1 69 (0 : Int32).toNatClampNeg = nI (m 0) from c1' 0 (by omega)]
            exact nI_add _ _
          rw [e79]
          by_cases hd : ab - 1 + wtm m v ≤ t
          · rw [if_pos hd]
            refine Ev.pos (by rw [ni_eq (by omega) (by omega)]; omega) ?_
            refine Ev.grd (by simp (disch := omega) only [up_s, up_k, up_j, mm_neg, mm_def, ni_lt, ni_le, ni_eq, ni_mm, mm_ni, ni_lt_mm, ni_le_mm, mm_lt_ni, mm_le_ni, mm_lt_mm, mm_le_mm, ni_cl, ni_in, nI_add, ni_mul, ni_div, ni_rem, ni_rem2, fr_sub, fr_mm, fr_ge0, fr_lt0, fr_inj, l32_0, l32_1, l32_2, l32_3, l32_4, l32_5, l32_6, l32_7, l32_8, l32_9, l32_10, l32_11, l32_12, l32_13, l32_14, l32_15, l32_16, l32_20, l32_24, l32_25, l32_26, l32_31, l32_32, l32_34, l32_35, l32_39, l32_40, l32_44, l32_45, l32_46, l32_47, l32_48, l32_49, l32_57, l32_58, l32_59, l32_63, l32_64, l32_85, l32_90, l32_97, l32_99, l32_100, l32_110, l32_112, l32_122, l32_124, l32_125, l32_255, l32_680, l32_699, l32_700, l32_999, l32_2500, l32_99999, l32_100000, l32_1000000, if_true, if_false, ite_true, ite_false, ce_nm, Option.bind, if_pos, if_neg]) (Ev.nm (Ev.grd (by simp (disch := omega) only [up_s, up_k, up_j, mm_neg, mm_def, ni_lt, ni_le, ni_eq, ni_mm, mm_ni, ni_lt_mm, ni_le_mm, mm_lt_ni, mm_le_ni, mm_lt_mm, mm_le_mm, ni_cl, ni_in, nI_add, ni_mul, ni_div, ni_rem, ni_rem2, fr_sub, fr_mm, fr_ge0, fr_lt0, fr_inj, l32_0, l32_1, l32_2, l32_3, l32_4, l32_5, l32_6, l32_7, l32_8, l32_9, l32_10, l32_11, l32_12, l32_13, l32_14, l32_15, l32_16, l32_20, l32_24, l32_25, l32_26, l32_31, l32_32, l32_34, l32_35, l32_39, l32_40, l32_44, l32_45, l32_46, l32_47, l32_48, l32_49, l32_57, l32_58, l32_59, l32_63, l32_64, l32_85, l32_90, l32_97, l32_99, l32_100, l32_110, l32_112, l32_122, l32_124, l32_125, l32_255, l32_680, l32_699, l32_700, l32_999, l32_2500, l32_99999, l32_100000, l32_1000000, if_true, if_false, ite_true, ite_false, ce_nm, Option.bind, if_pos, if_neg]) (Ev.nm ?_)))
            have c2 : MN (hp_up (hp_up h1 77 v (nI t)) 78 v (nI e0)) m := (c1'.fr (up_fr _ 77 _ _) (by omega)).fr (up_fr _ 78 _ _) (by omega)
            rw [x_otherOf c2 he40]
            refine ev_bs ?_
            dsimp only
            have c85 := c2 (85 + e0) (by omega)
            rw [fwo]
            refine Ev.grd (by simp (disch := omega) only [up_s, up_k, up_j, mm_neg, mm_def, ni_lt, ni_le, ni_eq, ni_mm, mm_ni, ni_lt_mm, ni_le_mm, mm_lt_ni, mm_le_ni, mm_lt_mm, mm_le_mm, ni_cl, ni_in, nI_add, ni_mul, ni_div, ni_rem, ni_rem2, fr_sub, fr_mm, fr_ge0, fr_lt0, fr_inj, l32_0, l32_1, l32_2, l32_3, l32_4, l32_5, l32_6, l32_7, l32_8, l32_9, l32_10, l32_11, l32_12, l32_13, l32_14, l32_15, l32_16, l32_20, l32_24, l32_25, l32_26, l32_31, l32_32, l32_34, l32_35, l32_39, l32_40, l32_44, l32_45, l32_46, l32_47, l32_48, l32_49, l32_57, l32_58, l32_59, l32_63, l32_64, l32_85, l32_90, l32_97, l32_99, l32_100, l32_110, l32_112, l32_122, l32_124, l32_125, l32_255, l32_680, l32_699, l32_700, l32_999, l32_2500, l32_99999, l32_100000, l32_1000000, if_true, if_false, ite_true, ite_false, ce_nm, Option.bind, if_pos, if_neg]) (Ev.grd (by simp (disch := omega) only [up_s, up_k, up_j, mm_neg, mm_def, ni_lt, ni_le, ni_eq, ni_mm, mm_ni, ni_lt_mm, ni_le_mm, mm_lt_ni, mm_le_ni, mm_lt_mm, mm_le_mm, ni_cl, ni_in, nI_add, ni_mul, ni_div, ni_rem, ni_rem2, fr_sub, fr_mm, fr_ge0, fr_lt0, fr_inj, l32_0, l32_1, l32_2, l32_3, l32_4, l32_5, l32_6, l32_7, l32_8, l32_9, l32_10, l32_11, l32_12, l32_13, l32_14, l32_15, l32_16, l32_20, l32_24, l32_25, l32_26, l32_31, l32_32, l32_34, l32_35, l32_39, l32_40, l32_44, l32_45, l32_46, l32_47, l32_48, l32_49, l32_57, l32_58, l32_59, l32_63, l32_64, l32_85, l32_90, l32_97, l32_99, l32_100, l32_110, l32_112, l32_122, l32_124, l32_125, l32_255, l32_680, l32_699, l32_700, l32_999, l32_2500, l32_99999, l32_100000, l32_1000000, if_true, if_false, ite_true, ite_false, ce_nm, Option.bind, if_pos, if_neg]) (Ev.nm (Ev.some ⟨?_, ?_⟩)))
            · exact ((f1.trans ((up_fr _ 77 _ _).wide (by omega) (by omega))).trans ((up_fr _ 78 _ _).wide (by omega) (by omega))).trans ((up_fr _ 76 _ _).wide (by omega) (by omega))
            · have ex : nI t + hp_up (hp_up h1 77 v (nI t)) 78 v (nI e0) 69 ((85 : Int32) + nI e0).toNatClampNeg = nI (t + m (85 + e0)) := by
                rw [show (85 : Int32) + nI e0 = nI (85 + e0) from nI_add 85 e0, ni_cl (by omega), c85]
                exact nI_add _ _
              rw [ex, ni_cl (by omega), he0]
              exact ME_cl M1
          · rw [if_neg hd]
            exact Ev.neg (by rw [ni_eq (by omega) (by omega)]; omega) (Ev.some ⟨f1, M1⟩)
      by_cases z3 : s 3 v = 0
      · have e79 : h 79 v = mm := by rw [(M.2 v hv10).2.2.1, z3]; rfl
        rw [e79]
        refine Ev.pos rfl ?_
        have : ab - 1 = t := by rw [hab, if_pos z3]; rfl
        rw [this] at core
        rw [this]
        exact core
      · have e79 : h 79 v = nI (s 3 v - 1) := by rw [(M.2 v hv10).2.2.1, fr_p (by omega)]
        rw [e79]
        refine Ev.neg (fun q => by have q : nI (s 3 v - 1) = mm := q; rw [ni_mm (by omega)] at q; exact q) (Ev.grd (by simp (disch := omega) only [up_s, up_k, up_j, mm_neg, mm_def, ni_lt, ni_le, ni_eq, ni_mm, mm_ni, ni_lt_mm, ni_le_mm, mm_lt_ni, mm_le_ni, mm_lt_mm, mm_le_mm, ni_cl, ni_in, nI_add, ni_mul, ni_div, ni_rem, ni_rem2, fr_sub, fr_mm, fr_ge0, fr_lt0, fr_inj, l32_0, l32_1, l32_2, l32_3, l32_4, l32_5, l32_6, l32_7, l32_8, l32_9, l32_10, l32_11, l32_12, l32_13, l32_14, l32_15, l32_16, l32_20, l32_24, l32_25, l32_26, l32_31, l32_32, l32_34, l32_35, l32_39, l32_40, l32_44, l32_45, l32_46, l32_47, l32_48, l32_49, l32_57, l32_58, l32_59, l32_63, l32_64, l32_85, l32_90, l32_97, l32_99, l32_100, l32_110, l32_112, l32_122, l32_124, l32_125, l32_255, l32_680, l32_699, l32_700, l32_999, l32_2500, l32_99999, l32_100000, l32_1000000, if_true, if_false, ite_true, ite_false, ce_nm, Option.bind, if_pos, if_neg]) ?_)
        have : ab - 1 = s 3 v - 1 := by rw [hab, if_neg z3]
        rw [this] at core
        rw [this]
        exact core
    · rw [if_neg c1]
      exact Ev.neg (by simp (disch := omega) only [up_s, up_k, up_j, mm_neg, mm_def, ni_lt, ni_le, ni_eq, ni_mm, mm_ni, ni_lt_mm, ni_le_mm, mm_lt_ni, mm_le_ni, mm_lt_mm, mm_le_mm, ni_cl, ni_in, nI_add, ni_mul, ni_div, ni_rem, ni_rem2, fr_sub, fr_mm, fr_ge0, fr_lt0, fr_inj, l32_0, l32_1, l32_2, l32_3, l32_4, l32_5, l32_6, l32_7, l32_8, l32_9, l32_10, l32_11, l32_12, l32_13, l32_14, l32_15, l32_16, l32_20, l32_24, l32_25, l32_26, l32_31, l32_32, l32_34, l32_35, l32_39, l32_40, l32_44, l32_45, l32_46, l32_47, l32_48, l32_49, l32_57, l32_58, l32_59, l32_63, l32_64, l32_85, l32_90, l32_97, l32_99, l32_100, l32_110, l32_112, l32_122, l32_124, l32_125, l32_255, l32_680, l32_699, l32_700, l32_999, l32_2500, l32_99999, l32_100000, l32_1000000, if_true, if_false, ite_true, ite_false, ce_nm, Option.bind, if_pos, if_neg]; exact c1) (Ev.some ⟨Fr.refl _ _ _, M⟩)
