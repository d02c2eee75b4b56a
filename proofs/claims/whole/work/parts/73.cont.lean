-- the class's rounds
theorem x_contend_loop {m : Nat → Nat} {k kn v w L T F : Nat} {h : Hp} (hk : ce_isEl k) (hkn : ce_isNet kn) (h2 : m 2 ≤ 10) (ob : OkB m) (cc : CC h kn m) (hv : v < m 2) (hw : w < m 2) (hvw : v ≠ w) (k3v : h (k + 3) v = nI 0) (k3w : h (k + 3) w = nI 0) (hF : 1000 ≤ F) :
    Ev (ce_it (fun (st : Int32 × Int32 × Int32 × Hp) => f3_contend_b52 F k kn (nI v) (nI w) (nI (2 * L)) st.1 st.2.1 st.2.2.1 st.2.2.2) F (nI T, (-1 : Int32), (0 : Int32), h)) (fun o => o.1 = nI (cw (bt m v) (bt m w) L 10 0 T).1 ∧ ((o.2.1 = mm ∧ (cw (bt m v) (bt m w) L 10 0 T).2.2 = 2) ∨ o.2.1 = nI (if (cw (bt m v) (bt m w) L 10 0 T).2.2 = 1 then v else w)) ∧ Fr (k + 3) (k + 3) h o.2.2 ∧ ∀ u, u < 10 → o.2.2 (k + 3) u = if u = v ∨ u = w then nI (cw (bt m v) (bt m w) L 10 0 T).2.1 else h (k + 3) u) := by
  have bk := el_ge hk
  have bn := net_le hkn
  have bd := (cw_bd (bt m v) (bt m w) L 10 0 T).2
  generalize hR : cw (bt m v) (bt m w) L 10 0 T = R at bd
  refine Ev.it (I := fun i st => Fr (k + 3) (k + 3) h st.2.2.2 ∧ ((∃ t, i ≤ 10 ∧ st.1 = nI t ∧ st.2.1 = mm ∧ st.2.2.1 = nI i ∧ cw (bt m v) (bt m w) L (10 - i) i t = R ∧ ∀ u, u < 10 → st.2.2.2 (k + 3) u = if u = v ∨ u = w then nI i else h (k + 3) u) ∨ (st.1 = nI R.1 ∧ st.2.1 = nI (if R.2.2 = 1 then v else w) ∧ st.2.2.1 = nI R.2.1 ∧ ∀ u, u < 10 → st.2.2.2 (k + 3) u = if u = v ∨ u = w then nI R.2.1 else h (k + 3) u))) _ 12 ?_ F 0 _ (by omega) (by omega) ⟨Fr.refl _ _ _, Or.inl ⟨T, by omega, rfl, rfl, rfl, hR, fun u hu => ?_⟩⟩
  rotate_left
  · by_cases z : u = v ∨ u = w
    · rw [if_pos z]
      rcases z with rfl | rfl
      · exact k3v
      · exact k3w
    · rw [if_neg z]
  rintro i ⟨x7, x8, x9, h1⟩ hi hI
  obtain ⟨f1, hI⟩ : Fr (k + 3) (k + 3) h h1 ∧ ((∃ t, i ≤ 10 ∧ x7 = nI t ∧ x8 = mm ∧ x9 = nI i ∧ cw (bt m v) (bt m w) L (10 - i) i t = R ∧ ∀ u, u < 10 → h1 (k + 3) u = if u = v ∨ u = w then nI i else h (k + 3) u) ∨ (x7 = nI R.1 ∧ x8 = nI (if R.2.2 = 1 then v else w) ∧ x9 = nI R.2.1 ∧ ∀ u, u < 10 → h1 (k + 3) u = if u = v ∨ u = w then nI R.2.1 else h (k + 3) u)) := hI
  show Ev (f3_contend_b52 F k kn (nI v) (nI w) (nI (2 * L)) x7 x8 x9 h1) _
  have nxt : nI i + 1 = nI (i + 1) := nI_1 _
  have cc1 : CC h1 kn m := fun u hu => by rw [f1 (kn + 4) (by omega), f1 (kn + 3) (by omega)]; exact cc u hu
  unfold f3_contend_b52
  rcases hI with ⟨t, hi10, rfl, rfl, rfl, hc, rows⟩ | ⟨rfl, rfl, rfl, rows⟩
  · by_cases z : i = 10
    · subst z
      rw [show 10 - 10 = 0 from rfl, cw_z] at hc
      refine Ev.pos (by simp (disch := omega) only [up_s, up_k, up_j, mm_neg, mm_def, ni_lt, ni_le, ni_eq, ni_mm, mm_ni, ni_lt_mm, ni_le_mm, mm_lt_ni, mm_le_ni, mm_lt_mm, mm_le_mm, ni_cl, ni_in, nI_add, ni_mul, ni_div, ni_rem, ni_rem2, fr_sub, fr_mm, fr_ge0, fr_lt0, fr_inj, l32_0, l32_1, l32_2, l32_3, l32_4, l32_5, l32_6, l32_7, l32_8, l32_9, l32_10, l32_11, l32_12, l32_13, l32_14, l32_15, l32_16, l32_20, l32_24, l32_25, l32_26, l32_31, l32_32, l32_34, l32_35, l32_39, l32_40, l32_44, l32_45, l32_46, l32_47, l32_48, l32_49, l32_57, l32_58, l32_59, l32_63, l32_64, l32_85, l32_90, l32_97, l32_99, l32_100, l32_110, l32_112, l32_122, l32_124, l32_125, l32_255, l32_680, l32_699, l32_700, l32_999, l32_2500, l32_99999, l32_100000, l32_1000000, if_true, if_false, ite_true, ite_false, ce_nm, Option.bind, if_pos, if_neg]; exact Nat.le_refl _) (Ev.some ⟨?_, Or.inl ⟨rfl, ?_⟩, f1, ?_⟩)
      · rw [← hc]
      · rw [← hc]
      · rw [← hc]; exact rows
    · refine Ev.neg (by simp (disch := omega) only [up_s, up_k, up_j, mm_neg, mm_def, ni_lt, ni_le, ni_eq, ni_mm, mm_ni, ni_lt_mm, ni_le_mm, mm_lt_ni, mm_le_ni, mm_lt_mm, mm_le_mm, ni_cl, ni_in, nI_add, ni_mul, ni_div, ni_rem, ni_rem2, fr_sub, fr_mm, fr_ge0, fr_lt0, fr_inj, l32_0, l32_1, l32_2, l32_3, l32_4, l32_5, l32_6, l32_7, l32_8, l32_9, l32_10, l32_11, l32_12, l32_13, l32_14, l32_15, l32_16, l32_20, l32_24, l32_25, l32_26, l32_31, l32_32, l32_34, l32_35, l32_39, l32_40, l32_44, l32_45, l32_46, l32_47, l32_48, l32_49, l32_57, l32_58, l32_59, l32_63, l32_64, l32_85, l32_90, l32_97, l32_99, l32_100, l32_110, l32_112, l32_122, l32_124, l32_125, l32_255, l32_680, l32_699, l32_700, l32_999, l32_2500, l32_99999, l32_100000, l32_1000000, if_true, if_false, ite_true, ite_false, ce_nm, Option.bind, if_pos, if_neg]; omega) (Ev.pos rfl ?_)
      rw [x_coinOf h2 ob cc1 hv (by omega)]
      refine ev_bs ?_
      dsimp only
      rw [x_coinOf h2 ob cc1 hw (by omega)]
      refine ev_bs ?_
      dsimp only
      obtain ⟨f, hf⟩ : ∃ f, 10 - i = f + 1 := ⟨9 - i, by omega⟩
      have hf2 : 10 - (i + 1) = f := by omega
      rw [hf, cw_s] at hc
      have a2 := bt_le m v i
      have b2 := bt_le m w i
      generalize bt m v i = a at hc a2
      generalize bt m w i = b at hc b2
      have e2 : nI t + (nI (2 * L) + (2 : Int32)) = nI (t + (2 * L + 2)) := by rw [l32_2, nI_add, nI_add]
      have e6 : nI t + (nI (2 * L) + (6 : Int32)) = nI (t + (2 * L + 6)) := by rw [l32_6, nI_add, nI_add]
      refine Ev.grd (by simp (disch := omega) only [up_s, up_k, up_j, mm_neg, mm_def, ni_lt, ni_le, ni_eq, ni_mm, mm_ni, ni_lt_mm, ni_le_mm, mm_lt_ni, mm_le_ni, mm_lt_mm, mm_le_mm, ni_cl, ni_in, nI_add, ni_mul, ni_div, ni_rem, ni_rem2, fr_sub, fr_mm, fr_ge0, fr_lt0, fr_inj, l32_0, l32_1, l32_2, l32_3, l32_4, l32_5, l32_6, l32_7, l32_8, l32_9, l32_10, l32_11, l32_12, l32_13, l32_14, l32_15, l32_16, l32_20, l32_24, l32_25, l32_26, l32_31, l32_32, l32_34, l32_35, l32_39, l32_40, l32_44, l32_45, l32_46, l32_47, l32_48, l32_49, l32_57, l32_58, l32_59, l32_63, l32_64, l32_85, l32_90, l32_97, l32_99, l32_100, l32_110, l32_112, l32_122, l32_124, l32_125, l32_255, l32_680, l32_699, l32_700, l32_999, l32_2500, l32_99999, l32_100000, l32_1000000, if_true, if_false, ite_true, ite_false, ce_nm, Option.bind, if_pos, if_neg]) (Ev.grd (by simp (disch := omega) only [up_s, up_k, up_j, mm_neg, mm_def, ni_lt, ni_le, ni_eq, ni_mm, mm_ni, ni_lt_mm, ni_le_mm, mm_lt_ni, mm_le_ni, mm_lt_mm, mm_le_mm, ni_cl, ni_in, nI_add, ni_mul, ni_div, ni_rem, ni_rem2, fr_sub, fr_mm, fr_ge0, fr_lt0, fr_inj, l32_0, l32_1, l32_2, l32_3, l32_4, l32_5, l32_6, l32_7, l32_8, l32_9, l32_10, l32_11, l32_12, l32_13, l32_14, l32_15, l32_16, l32_20, l32_24, l32_25, l32_26, l32_31, l32_32, l32_34, l32_35, l32_39, l32_40, l32_44, l32_45, l32_46, l32_47, l32_48, l32_49, l32_57, l32_58, l32_59, l32_63, l32_64, l32_85, l32_90, l32_97, l32_99, l32_100, l32_110, l32_112, l32_122, l32_124, l32_125, l32_255, l32_680, l32_699, l32_700, l32_999, l32_2500, l32_99999, l32_100000, l32_1000000, if_true, if_false, ite_true, ite_false, ce_nm, Option.bind, if_pos, if_neg]) (Ev.nm (Ev.grd (by simp (disch := omega) only [up_s, up_k, up_j, mm_neg, mm_def, ni_lt, ni_le, ni_eq, ni_mm, mm_ni, ni_lt_mm, ni_le_mm, mm_lt_ni, mm_le_ni, mm_lt_mm, mm_le_mm, ni_cl, ni_in, nI_add, ni_mul, ni_div, ni_rem, ni_rem2, fr_sub, fr_mm, fr_ge0, fr_lt0, fr_inj, l32_0, l32_1, l32_2, l32_3, l32_4, l32_5, l32_6, l32_7, l32_8, l32_9, l32_10, l32_11, l32_12, l32_13, l32_14, l32_15, l32_16, l32_20, l32_24, l32_25, l32_26, l32_31, l32_32, l32_34, l32_35, l32_39, l32_40, l32_44, l32_45, l32_46, l32_47, l32_48, l32_49, l32_57, l32_58, l32_59, l32_63, l32_64, l32_85, l32_90, l32_97, l32_99, l32_100, l32_110, l32_112, l32_122, l32_124, l32_125, l32_255, l32_680, l32_699, l32_700, l32_999, l32_2500, l32_99999, l32_100000, l32_1000000, if_true, if_false, ite_true, ite_false, ce_nm, Option.bind, if_pos, if_neg]) (Ev.grd (by simp (disch := omega) only [up_s, up_k, up_j, mm_neg, mm_def, ni_lt, ni_le, ni_eq, ni_mm, mm_ni, ni_lt_mm, ni_le_mm, mm_lt_ni, mm_le_ni, mm_lt_mm, mm_le_mm, ni_cl, ni_in, nI_add, ni_mul, ni_div, ni_rem, ni_rem2, fr_sub, fr_mm, fr_ge0, fr_lt0, fr_inj, l32_0, l32_1, l32_2, l32_3, l32_4, l32_5, l32_6, l32_7, l32_8, l32_9, l32_10, l32_11, l32_12, l32_13, l32_14, l32_15, l32_16, l32_20, l32_24, l32_25, l32_26, l32_31, l32_32, l32_34, l32_35, l32_39, l32_40, l32_44, l32_45, l32_46, l32_47, l32_48, l32_49, l32_57, l32_58, l32_59, l32_63, l32_64, l32_85, l32_90, l32_97, l32_99, l32_100, l32_110, l32_112, l32_122, l32_124, l32_125, l32_255, l32_680, l32_699, l32_700, l32_999, l32_2500, l32_99999, l32_100000, l32_1000000, if_true, if_false, ite_true, ite_false, ce_nm, Option.bind, if_pos, if_neg]) (Ev.nm ?_)))))
      rw [ni_cl (by omega), ni_cl (by omega)]
      have r1 : h1 (k + 3) v + 1 = nI (i + 1) := by rw [rows v (by omega), if_pos (Or.inl rfl), nxt]
      rw [r1]
      have r2 : hp_up h1 (k + 3) v (nI (i + 1)) (k + 3) w + 1 = nI (i + 1) := by rw [up_j _ _ _ _ _ (by omega), rows w (by omega), if_pos (Or.inr rfl), nxt]
      rw [r2]
      have ff : Fr (k + 3) (k + 3) h (hp_up (hp_up h1 (k + 3) v (nI (i + 1))) (k + 3) w (nI (i + 1))) := (f1.trans (up_fr _ _ _ _)).trans (up_fr _ _ _ _)
      have rr : ∀ u, u < 10 → hp_up (hp_up h1 (k + 3) v (nI (i + 1))) (k + 3) w (nI (i + 1)) (k + 3) u = if u = v ∨ u = w then nI (i + 1) else h (k + 3) u := fun u hu => by
        by_cases z1 : u = w
        · subst z1
          rw [up_s, if_pos (Or.inr rfl)]
        · rw [up_j _ _ _ _ _ z1]
          by_cases z2 : u = v
          · subst z2
            rw [up_s, if_pos (Or.inl rfl)]
          · rw [up_j _ _ _ _ _ z2, rows u hu, if_neg (by omega), if_neg (by omega)]
      generalize hp_up (hp_up h1 (k + 3) v (nI (i + 1))) (k + 3) w (nI (i + 1)) = h3 at ff rr
      rw [e2, e6, nxt]
      by_cases ab : a = b
      · subst ab
        rw [if_pos rfl] at hc
        by_cases a0 : a = 0
        · subst a0
          refine Ev.pos rfl (Ev.pos rfl (Ev.some ⟨by omega, ff, Or.inl ⟨t + (2 * L + 2), by omega, rfl, rfl, rfl, ?_, rr⟩⟩))
          rw [hf2]
          simpa using hc
        · have a1 : a = 1 := by omega
          subst a1
          refine Ev.neg (by decide) (Ev.pos rfl (Ev.some ⟨by omega, ff, Or.inl ⟨t + (2 * L + 6), by omega, rfl, rfl, rfl, ?_, rr⟩⟩))
          rw [hf2]
          simpa using hc
      · rw [if_neg ab] at hc
        by_cases a1 : a = 1
        · have b0 : b = 0 := by omega
          subst a1
          subst b0
          refine Ev.neg (by decide) (Ev.neg (by decide) (Ev.pos rfl (Ev.some ⟨by omega, ff, Or.inr ⟨?_, ?_, ?_, ?_⟩⟩)))
          · rw [← hc]
          · rw [← hc]; rfl
          · rw [← hc]
          · rw [← hc]; exact rr
        · have a0 : a = 0 := by omega
          have b1 : b = 1 := by omega
          subst a0
          subst b1
          refine Ev.neg (by decide) (Ev.neg (by decide) (Ev.neg (by decide) (Ev.some ⟨by omega, ff, Or.inr ⟨?_, ?_, ?_, ?_⟩⟩)))
          · rw [← hc]
          · rw [← hc]; rfl
          · rw [← hc]
          · rw [← hc]; exact rr
  · have wl : (if R.2.2 = 1 then v else w) < 10 := by by_cases z : R.2.2 = 1 <;> simp only [z, if_true, if_false] <;> omega
    generalize (if R.2.2 = 1 then v else w) = q at wl
    by_cases z : 10 ≤ R.2.1
    · exact Ev.pos (by simp (disch := omega) only [up_s, up_k, up_j, mm_neg, mm_def, ni_lt, ni_le, ni_eq, ni_mm, mm_ni, ni_lt_mm, ni_le_mm, mm_lt_ni, mm_le_ni, mm_lt_mm, mm_le_mm, ni_cl, ni_in, nI_add, ni_mul, ni_div, ni_rem, ni_rem2, fr_sub, fr_mm, fr_ge0, fr_lt0, fr_inj, l32_0, l32_1, l32_2, l32_3, l32_4, l32_5, l32_6, l32_7, l32_8, l32_9, l32_10, l32_11, l32_12, l32_13, l32_14, l32_15, l32_16, l32_20, l32_24, l32_25, l32_26, l32_31, l32_32, l32_34, l32_35, l32_39, l32_40, l32_44, l32_45, l32_46, l32_47, l32_48, l32_49, l32_57, l32_58, l32_59, l32_63, l32_64, l32_85, l32_90, l32_97, l32_99, l32_100, l32_110, l32_112, l32_122, l32_124, l32_125, l32_255, l32_680, l32_699, l32_700, l32_999, l32_2500, l32_99999, l32_100000, l32_1000000, if_true, if_false, ite_true, ite_false, ce_nm, Option.bind, if_pos, if_neg]; exact z) (Ev.some ⟨rfl, Or.inr rfl, f1, rows⟩)
    · exact Ev.neg (by simp (disch := omega) only [up_s, up_k, up_j, mm_neg, mm_def, ni_lt, ni_le, ni_eq, ni_mm, mm_ni, ni_lt_mm, ni_le_mm, mm_lt_ni, mm_le_ni, mm_lt_mm, mm_le_mm, ni_cl, ni_in, nI_add, ni_mul, ni_div, ni_rem, ni_rem2, fr_sub, fr_mm, fr_ge0, fr_lt0, fr_inj, l32_0, l32_1, l32_2, l32_3, l32_4, l32_5, l32_6, l32_7, l32_8, l32_9, l32_10, l32_11, l32_12, l32_13, l32_14, l32_15, l32_16, l32_20, l32_24, l32_25, l32_26, l32_31, l32_32, l32_34, l32_35, l32_39, l32_40, l32_44, l32_45, l32_46, l32_47, l32_48, l32_49, l32_57, l32_58, l32_59, l32_63, l32_64, l32_85, l32_90, l32_97, l32_99, l32_100, l32_110, l32_112, l32_122, l32_124, l32_125, l32_255, l32_680, l32_699, l32_700, l32_999, l32_2500, l32_99999, l32_100000, l32_1000000, if_true, if_false, ite_true, ite_false, ce_nm, Option.bind, if_pos, if_neg]; exact z) (Ev.neg (by simp (disch := omega) only [up_s, up_k, up_j, mm_neg, mm_def, ni_lt, ni_le, ni_eq, ni_mm, mm_ni, ni_lt_mm, ni_le_mm, mm_lt_ni, mm_le_ni, mm_lt_mm, mm_le_mm, ni_cl, ni_in, nI_add, ni_mul, ni_div, ni_rem, ni_rem2, fr_sub, fr_mm, fr_ge0, fr_lt0, fr_inj, l32_0, l32_1, l32_2, l32_3, l32_4, l32_5, l32_6, l32_7, l32_8, l32_9, l32_10, l32_11, l32_12, l32_13, l32_14, l32_15, l32_16, l32_20, l32_24, l32_25, l32_26, l32_31, l32_32, l32_34, l32_35, l32_39, l32_40, l32_44, l32_45, l32_46, l32_47, l32_48, l32_49, l32_57, l32_58, l32_59, l32_63, l32_64, l32_85, l32_90, l32_97, l32_99, l32_100, l32_110, l32_112, l32_122, l32_124, l32_125, l32_255, l32_680, l32_699, l32_700, l32_999, l32_2500, l32_99999, l32_100000, l32_1000000, if_true, if_false, ite_true, ite_false, ce_nm, Option.bind, if_pos, if_neg]; exact id) (Ev.some ⟨rfl, Or.inr rfl, f1, rows⟩))

-- calls both ways, and what comes of them
def mu (o : Nat → Nat) (s : Es) (v : Nat) : Bool := decide (s 2 v ≠ 0) && decide (s 2 ((o (s 2 v - 1) - 1) / 4) = o (s 2 v - 1))
def el (o : Nat → Nat) (s : Es) (v : Nat) : Nat := min (s 2 v - 1) (o (s 2 v - 1) - 1)
def CWe (o m : Nat → Nat) (s : Es) (e : Nat) : Nat × Nat × Nat := cw (bt m (e / 4)) (bt m ((o e - 1) / 4)) (m (85 + e)) 10 0 (max (s 0 e - 1) (s 0 (o e - 1) - 1))
def wno (o m : Nat → Nat) (s : Es) (e : Nat) : Nat := if (CWe o m s e).2.2 = 1 then e / 4 else (o e - 1) / 4
/-- with the pairs of D through -/
def Rd (o m : Nat → Nat) (s : Es) (d : Bool) (v : Nat) : Nat := if d = true ∧ wno o m s (el o s v) = v then (CWe o m s (el o s v)).1 + 1 else s 4 v
def Kd (o m : Nat → Nat) (s : Es) (d : Bool) (v : Nat) : Nat := if d = true then (CWe o m s (el o s v)).2.1 else 0
def Pd (o m : Nat → Nat) (s : Es) (d : Bool) (v : Nat) : Nat := if d = true ∧ wno o m s (el o s v) = v then 0 else s 2 v
theorem Rd_f {o m : Nat → Nat} {s : Es} {v : Nat} : Rd o m s false v = s 4 v := by unfold Rd; rw [if_neg (by simp)]
theorem Kd_f {o m : Nat → Nat} {s : Es} {v : Nat} : Kd o m s false v = 0 := by unfold Kd; rw [if_neg (by simp)]
theorem Pd_f {o m : Nat → Nat} {s : Es} {v : Nat} : Pd o m s false v = s 2 v := by unfold Pd; rw [if_neg (by simp)]
theorem mu_t {o : Nat → Nat} {s : Es} {v : Nat} : (mu o s v = true) = (s 2 v ≠ 0 ∧ s 2 ((o (s 2 v - 1) - 1) / 4) = o (s 2 v - 1)) := by
  unfold mu
  simp
theorem EM.s2 {o m wt : Nat → Nat} {t i : Nat} {s : Es} (E : EM o m wt t i s) {v : Nat} (hv : v < 10) (h : s 2 v ≠ 0) : s 1 v ≠ 0 := fun z => h (E.2.2.2.1 v hv z)
theorem mu_el {o m wt : Nat → Nat} {t i : Nat} {s : Es} (g : Gr o) (E : EM o m wt t i s) {u : Nat} (hu : u < 10) (h : mu o s u = true) :
    ∃ e, el o s u = e ∧ e < 40 ∧ o e ≠ 0 ∧ e < o e - 1 ∧ s 2 (e / 4) = e + 1 ∧ s 2 ((o e - 1) / 4) = o e ∧ (u = e / 4 ∨ u = (o e - 1) / 4) := by
  rw [mu_t] at h
  obtain ⟨a1, a2⟩ := h
  obtain ⟨b1, b2, b3, b4, b5, b6⟩ := E.2.1 u hu (E.s2 hu a1)
  obtain ⟨g1, g2, g3⟩ := g (s 2 u - 1) (by omega) b5
  have e0 : o (s 2 u - 1) - 1 + 1 = o (s 2 u - 1) := by omega
  unfold el
  generalize hf : s 2 u - 1 = f at *
  have hu2 : s 2 u = f + 1 := by omega
  by_cases z : f < o f - 1
  · refine ⟨f, by omega, by omega, b5, z, ?_, a2, Or.inl b4.symm⟩
    rw [b4]; exact hu2
  · have z2 : o f - 1 < f := by
      have : o f - 1 ≠ f := fun q => g3 (by rw [q])
      omega
    refine ⟨o f - 1, by omega, by omega, by omega, by omega, ?_, ?_, Or.inr ?_⟩
    · rw [a2]; omega
    · rw [g2, show f + 1 - 1 = f from rfl, b4]; exact hu2
    · rw [g2]; exact b4.symm
theorem el_mu {o : Nat → Nat} {s : Es} (g : Gr o) {e : Nat} (he : e < 40) (h0 : o e ≠ 0) (hl : e < o e - 1) (h1 : s 2 (e / 4) = e + 1) (h2 : s 2 ((o e - 1) / 4) = o e) :
    mu o s (e / 4) = true ∧ el o s (e / 4) = e ∧ mu o s ((o e - 1) / 4) = true ∧ el o s ((o e - 1) / 4) = e := by
  obtain ⟨g1, g2, g3⟩ := g e he h0
  have k1 : s 2 (e / 4) - 1 = e := by omega
  rw [mu_t, mu_t]
  unfold el
  rw [k1, h2, g2]
  exact ⟨⟨by omega, rfl⟩, by omega, ⟨by omega, h1⟩, by omega⟩
