-- the tape: feed, end; fault, count
theorem b255 : ∀ i : Fin 32, (255#32).getLsbD i.val = decide (i.val < 8) := by decide
theorem bv255 (b : BitVec 32) : ((b.signExtend 8).signExtend 32) &&& 255#32 = b &&& 255#32 := by
  apply BitVec.eq_of_getLsbD_eq
  intro i hi
  rw [BitVec.getLsbD_and, BitVec.getLsbD_and, b255 ⟨i, hi⟩]
  by_cases z : i < 8
  · rw [BitVec.getLsbD_signExtend, BitVec.getLsbD_signExtend]
    simp [z, hi]
  · simp [z]
theorem key255 (y : Int32) : y.toInt8.toInt32 &&& 255 = y &&& 255 := by
  apply Int32.toBitVec.inj
  exact bv255 y.toBitVec
theorem byte255 (y : Int32) : (vp_nar .byte (y.toInt8.toInt32)) &&& 255 = y &&& 255 := by
  have e : vp_nar .byte (y.toInt8.toInt32) = (y.toInt8.toInt32).toInt8.toInt32 := rfl
  rw [e, key255, key255]
theorem and255 (y : Int32) : ∃ c, c < 256 ∧ y &&& 255 = nI c := by
  have t : (y &&& 255).toUInt32.toNat = y.toUInt32.toNat &&& 255 := by
    show (y.toUInt32 &&& (255 : Int32).toUInt32).toNat = _
    rw [UInt32.toNat_and]
    rfl
  have l : y.toUInt32.toNat &&& 255 ≤ 255 := Nat.and_le_right
  rcases i32_of (y &&& 255) with q | ⟨a, ha, q⟩
  · have := un_neg q
    omega
  · rw [q, un_pos ha] at t
    exact ⟨a, by omega, q⟩
/-- the tape in both -/
def TP (h : Hp) (T : Nat) (t : Nat → Nat) : Prop := T ≤ 700 ∧ h 2 1 = nI T ∧ h 68 4 = nI T ∧ (∀ i, i < T → t i < 256 ∧ h 72 i = nI (t i) ∧ h 3 i &&& 255 = nI (t i)) ∧ h 1 4 = h 68 5 ∧ h 1 5 = h 68 6
/-- the i-th of the twenty bytes -/
def fb (fv : Nat → Int32) (i : Nat) : Int32 := ce_ushr (fv (i / 4)) (nI (24 - 8 * (i % 4)))
theorem x_append {T F : Nat} {h : Hp} (x : Int32) (h2 : h 2 1 = nI T) (hT : T + 4 ≤ 700) (hF : 1000 ≤ F) : Ev (f7_append F x h) (fun h' => (∀ c, c ≠ 2 → c ≠ 3 → h' c = h c) ∧ (∀ j, j ≠ 1 → h' 2 j = h 2 j) ∧ h' 2 1 = nI (T + 4) ∧ (∀ i, i < T → h' 3 i = h 3 i) ∧ ∀ i, i < 4 → h' 3 (T + i) = vp_nar .byte ((ce_ushr x (nI (24 - 8 * i))).toInt8.toInt32)) := by
  unfold f7_append
  refine Ev.bind (P := fun h' => (∀ c, c ≠ 2 → c ≠ 3 → h' c = h c) ∧ (∀ j, j ≠ 1 → h' 2 j = h 2 j) ∧ h' 2 1 = nI (T + 4) ∧ (∀ i, i < T → h' 3 i = h 3 i) ∧ ∀ i, i < 4 → h' 3 (T + i) = vp_nar .byte ((ce_ushr x (nI (24 - 8 * i))).toInt8.toInt32)) ?_ (fun r hr => Ev.some hr)
  refine Ev.it (I := fun k st => st.1 = (if k < 4 then nI (24 - 8 * k) else (-8 : Int32)) ∧ (∀ c, c ≠ 2 → c ≠ 3 → st.2 c = h c) ∧ (∀ j, j ≠ 1 → st.2 2 j = h 2 j) ∧ st.2 2 1 = nI (T + k) ∧ (∀ i, i < T → st.2 3 i = h 3 i) ∧ ∀ i, i < k → st.2 3 (T + i) = vp_nar .byte ((ce_ushr x (nI (24 - 8 * i))).toInt8.toInt32)) _ 4 ?_ F 0 _ (by omega) (by omega) ⟨rfl, fun _ _ _ => rfl, fun _ _ => rfl, h2, fun _ _ => rfl, fun i hi => absurd hi (by omega)⟩
  rintro k ⟨x2, h1⟩ hk hI
  obtain ⟨rfl, f1, f2, h1t, f3, b1⟩ : x2 = (if k < 4 then nI (24 - 8 * k) else (-8 : Int32)) ∧ (∀ c, c ≠ 2 → c ≠ 3 → h1 c = h c) ∧ (∀ j, j ≠ 1 → h1 2 j = h 2 j) ∧ h1 2 1 = nI (T + k) ∧ (∀ i, i < T → h1 3 i = h 3 i) ∧ ∀ i, i < k → h1 3 (T + i) = vp_nar .byte ((ce_ushr x (nI (24 - 8 * i))).toInt8.toInt32) := hI
  show Ev (f7_append_b3 F x (if k < 4 then nI (24 - 8 * k) else (-8 : Int32)) h1) _
  unfold f7_append_b3
  by_cases k4 : k < 4
  · rw [if_pos k4]
    refine Ev.neg (by simp (disch := omega) only [up_s, up_k, up_j, mm_neg, mm_def, ni_lt, ni_le, ni_eq, ni_mm, mm_ni, ni_lt_mm, ni_le_mm, mm_lt_ni, mm_le_ni, mm_lt_mm, mm_le_mm, ni_cl, ni_in, nI_add, ni_mul, ni_div, ni_rem, ni_rem2, fr_sub, fr_mm, fr_ge0, fr_lt0, fr_inj, l32_0, l32_1, l32_2, l32_3, l32_4, l32_5, l32_6, l32_7, l32_8, l32_9, l32_10, l32_11, l32_12, l32_13, l32_14, l32_15, l32_16, l32_20, l32_24, l32_25, l32_26, l32_31, l32_32, l32_34, l32_35, l32_39, l32_40, l32_44, l32_45, l32_46, l32_47, l32_48, l32_49, l32_57, l32_58, l32_59, l32_63, l32_64, l32_85, l32_90, l32_97, l32_99, l32_100, l32_110, l32_112, l32_122, l32_124, l32_125, l32_255, l32_680, l32_699, l32_700, l32_999, l32_2500, l32_99999, l32_100000, l32_1000000, if_true, if_false, ite_true, ite_false, ce_nm, Option.bind, if_pos, if_neg]; omega) (Ev.neg (by rw [h1t]; simp (disch := omega) only [up_s, up_k, up_j, mm_neg, mm_def, ni_lt, ni_le, ni_eq, ni_mm, mm_ni, ni_lt_mm, ni_le_mm, mm_lt_ni, mm_le_ni, mm_lt_mm, mm_le_mm, ni_cl, ni_in, nI_add, ni_mul, ni_div, ni_rem, ni_rem2, fr_sub, fr_mm, fr_ge0, fr_lt0, fr_inj, l32_0, l32_1, l32_2, l32_3, l32_4, l32_5, l32_6, l32_7, l32_8, l32_9, l32_10, l32_11, l32_12, l32_13, l32_14, l32_15, l32_16, l32_20, l32_24, l32_25, l32_26, l32_31, l32_32, l32_34, l32_35, l32_39, l32_40, l32_44, l32_45, l32_46, l32_47, l32_48, l32_49, l32_57, l32_58, l32_59, l32_63, l32_64, l32_85, l32_90, l32_97, l32_99, l32_100, l32_110, l32_112, l32_122, l32_124, l32_125, l32_255, l32_680, l32_699, l32_700, l32_999, l32_2500, l32_99999, l32_100000, l32_1000000, if_true, if_false, ite_true, ite_false, ce_nm, Option.bind, if_pos, if_neg]; omega) (Ev.grd (by rw [h1t]; exact ni_in (by omega) (by omega)) (Ev.nm (Ev.nm (Ev.some ⟨k4, ?_, fun c c1 c2 => ?_, fun j hj => ?_, ?_, fun i hi => ?_, fun i hi => ?_⟩)))))
    · dsimp only
      rcases (show k = 0 ∨ k = 1 ∨ k = 2 ∨ k = 3 by omega) with z | z | z | z
      · subst z; decide
      · subst z; decide
      · subst z; decide
      · subst z; decide
    · dsimp only; rw [up_kk _ _ _ _ _ c1, up_kk _ _ _ _ _ c2]; exact f1 c c1 c2
    · dsimp only; rw [up_j _ _ _ _ _ hj, up_k _ _ _ _ _ _ (by omega)]; exact f2 j hj
    · dsimp only
      rw [up_s, up_k _ _ _ _ _ _ (by omega), h1t]
      exact nI_1 _
    · dsimp only
      rw [up_k _ _ _ _ _ _ (by omega), h1t, ni_cl (by omega), up_j _ _ _ _ _ (by omega)]
      exact f3 i hi
    · dsimp only
      rw [up_k _ _ _ _ _ _ (by omega), h1t, ni_cl (by omega)]
      by_cases z : i = k
      · rw [z, up_s]
      · rw [up_j _ _ _ _ _ (by omega)]; exact b1 i (by omega)
  · have : k = 4 := by omega
    subst this
    exact Ev.pos (show (if (4 : Nat) < 4 then nI (24 - 8 * 4) else (-8 : Int32)) < 0 by decide) (Ev.some ⟨f1, f2, h1t, f3, b1⟩)
theorem x_mfeed {T F : Nat} {h : Hp} (fv : Nat → Int32) (h4 : h 68 4 = nI T) (hT : T + 20 ≤ 700) (hF : 1000 ≤ F) : Ev (ce_it (fun (st : Int32 × Hp) => f12_feed_b42 F fv st.1 st.2) F ((0 : Int32), h)) (fun h' => (∀ c, c ≠ 72 → h' c = h c) ∧ (∀ i, i < T → h' 72 i = h 72 i) ∧ ∀ i, i < 20 → h' 72 (T + i) = fb fv i &&& 255) := by
  refine Ev.it (I := fun k st => st.1 = nI k ∧ (∀ c, c ≠ 72 → st.2 c = h c) ∧ (∀ i, i < T → st.2 72 i = h 72 i) ∧ ∀ i, i < k → st.2 72 (T + i) = fb fv i &&& 255) _ 20 ?_ F 0 _ (by omega) (by omega) ⟨rfl, fun _ _ => rfl, fun _ _ => rfl, fun i hi => absurd hi (by omega)⟩
  rintro k ⟨x7, h1⟩ hk hI
  obtain ⟨rfl, f1, f2, b1⟩ : x7 = nI k ∧ (∀ c, c ≠ 72 → h1 c = h c) ∧ (∀ i, i < T → h1 72 i = h 72 i) ∧ ∀ i, i < k → h1 72 (T + i) = fb fv i &&& 255 := hI
  show Ev (f12_feed_b42 F fv (nI k) h1) _
  unfold f12_feed_b42
  by_cases hin : 20 ≤ k
  · exact Ev.pos (by simp (disch := omega) only [up_s, up_k, up_j, mm_neg, mm_def, ni_lt, ni_le, ni_eq, ni_mm, mm_ni, ni_lt_mm, ni_le_mm, mm_lt_ni, mm_le_ni, mm_lt_mm, mm_le_mm, ni_cl, ni_in, nI_add, ni_mul, ni_div, ni_rem, ni_rem2, fr_sub, fr_mm, fr_ge0, fr_lt0, fr_inj, l32_0, l32_1, l32_2, l32_3, l32_4, l32_5, l32_6, l32_7, l32_8, l32_9, l32_10, l32_11, l32_12, l32_13, l32_14, l32_15, l32_16, l32_20, l32_24, l32_25, l32_26, l32_31, l32_32, l32_34, l32_35, l32_39, l32_40, l32_44, l32_45, l32_46, l32_47, l32_48, l32_49, l32_57, l32_58, l32_59, l32_63, l32_64, l32_85, l32_90, l32_97, l32_99, l32_100, l32_110, l32_112, l32_122, l32_124, l32_125, l32_255, l32_680, l32_699, l32_700, l32_999, l32_2500, l32_99999, l32_100000, l32_1000000, if_true, if_false, ite_true, ite_false, ce_nm, Option.bind, if_pos, if_neg]; exact hin) (Ev.some ⟨f1, f2, fun i hi => b1 i (by omega)⟩)
  · have e1 : nI k / (4 : Int32) = nI (k / 4) := by rw [l32_4, ni_div (by omega) (by omega) (by omega)]
    have e2 : nI k - nI (k / 4) * (4 : Int32) = nI (k % 4) := by rw [l32_4, ni_rem (by omega) (by omega) (by omega)]
    have e3 : (24 : Int32) - (8 : Int32) * nI (k % 4) = nI (24 - 8 * (k % 4)) := by rw [l32_8, ni_mul, l32_24, ni_sub (by omega)]
    have e4 : h1 68 4 + nI k = nI (T + k) := by rw [f1 68 (by omega), h4, nI_add]
    refine Ev.neg (by simp (disch := omega) only [up_s, up_k, up_j, mm_neg, mm_def, ni_lt, ni_le, ni_eq, ni_mm, mm_ni, ni_lt_mm, ni_le_mm, mm_lt_ni, mm_le_ni, mm_lt_mm, mm_le_mm, ni_cl, ni_in, nI_add, ni_mul, ni_div, ni_rem, ni_rem2, fr_sub, fr_mm, fr_ge0, fr_lt0, fr_inj, l32_0, l32_1, l32_2, l32_3, l32_4, l32_5, l32_6, l32_7, l32_8, l32_9, l32_10, l32_11, l32_12, l32_13, l32_14, l32_15, l32_16, l32_20, l32_24, l32_25, l32_26, l32_31, l32_32, l32_34, l32_35, l32_39, l32_40, l32_44, l32_45, l32_46, l32_47, l32_48, l32_49, l32_57, l32_58, l32_59, l32_63, l32_64, l32_85, l32_90, l32_97, l32_99, l32_100, l32_110, l32_112, l32_122, l32_124, l32_125, l32_255, l32_680, l32_699, l32_700, l32_999, l32_2500, l32_99999, l32_100000, l32_1000000, if_true, if_false, ite_true, ite_false, ce_nm, Option.bind, if_pos, if_neg]; exact hin) ?_
    rw [e1, e2, e3, e4, ni_cl (by omega : k / 4 < 2147483648), ni_cl (by omega : T + k < 2147483648)]
    refine Ev.grd (ni_in (by omega) (by omega)) (Ev.grd (ni_in (by omega) (by omega)) (Ev.nm (Ev.some ⟨by omega, nI_1 k, fun c hc => ?_, fun i hi => ?_, fun i hi => ?_⟩)))
    · dsimp only; rw [up_kk _ _ _ _ _ hc]; exact f1 c hc
    · dsimp only; rw [up_j _ _ _ _ _ (by omega)]; exact f2 i hi
    · dsimp only
      by_cases z : i = k
      · rw [z, up_s]; rfl
      · rw [up_j _ _ _ _ _ (by omega)]; exact b1 i (by omega)
def fv5 (x1 x2 x3 x4 x5 : Int32) : Nat → Int32 := upd (upd (upd (upd (upd (fun _ => 0) ((0 : Int32)).toNatClampNeg x1) ((1 : Int32)).toNatClampNeg x2) ((2 : Int32)).toNatClampNeg x3) ((3 : Int32)).toNatClampNeg x4) ((4 : Int32)).toNatClampNeg x5
theorem fv5_v (x1 x2 x3 x4 x5 : Int32) : fv5 x1 x2 x3 x4 x5 0 = x1 ∧ fv5 x1 x2 x3 x4 x5 1 = x2 ∧ fv5 x1 x2 x3 x4 x5 2 = x3 ∧ fv5 x1 x2 x3 x4 x5 3 = x4 ∧ fv5 x1 x2 x3 x4 x5 4 = x5 := ⟨rfl, rfl, rfl, rfl, rfl⟩
/-- the tapes' cells alone -/
def FrT (h h' : Hp) : Prop := (∀ c, c ≠ 2 → c ≠ 3 → c ≠ 68 → c ≠ 72 → h' c = h c) ∧ (∀ j, j ≠ 4 → h' 68 j = h 68 j)
theorem q_feed {T F : Nat} {t : Nat → Nat} {h : Hp} (hF : 1000 ≤ F) (x1 x2 x3 x4 x5 : Int32) (tp : TP h T t) : Ev (f11_feed F x1 x2 x3 x4 x5 h) (fun o => Ev (f12_feed F x1 x2 x3 x4 x5 o.2) (fun p => o.1 = p.1 ∧ FrT h p.2 ∧ ∃ T' t', TP p.2 T' t')) := by
  have tp' := tp
  obtain ⟨hT, c2, c68, rows, g1, g2⟩ := tp
  unfold f11_feed
  by_cases big : T + 20 ≤ 700
  rotate_left
  · refine Ev.neg (by rw [c2, l32_20, nI_add]; simp (disch := omega) only [up_s, up_k, up_j, mm_neg, mm_def, ni_lt, ni_le, ni_eq, ni_mm, mm_ni, ni_lt_mm, ni_le_mm, mm_lt_ni, mm_le_ni, mm_lt_mm, mm_le_mm, ni_cl, ni_in, nI_add, ni_mul, ni_div, ni_rem, ni_rem2, fr_sub, fr_mm, fr_ge0, fr_lt0, fr_inj, l32_0, l32_1, l32_2, l32_3, l32_4, l32_5, l32_6, l32_7, l32_8, l32_9, l32_10, l32_11, l32_12, l32_13, l32_14, l32_15, l32_16, l32_20, l32_24, l32_25, l32_26, l32_31, l32_32, l32_34, l32_35, l32_39, l32_40, l32_44, l32_45, l32_46, l32_47, l32_48, l32_49, l32_57, l32_58, l32_59, l32_63, l32_64, l32_85, l32_90, l32_97, l32_99, l32_100, l32_110, l32_112, l32_122, l32_124, l32_125, l32_255, l32_680, l32_699, l32_700, l32_999, l32_2500, l32_99999, l32_100000, l32_1000000, if_true, if_false, ite_true, ite_false, ce_nm, Option.bind, if_pos, if_neg]; exact big) (Ev.some ?_)
    unfold f12_feed
    exact Ev.neg (by dsimp only; rw [c68]; simp (disch := omega) only [up_s, up_k, up_j, mm_neg, mm_def, ni_lt, ni_le, ni_eq, ni_mm, mm_ni, ni_lt_mm, ni_le_mm, mm_lt_ni, mm_le_ni, mm_lt_mm, mm_le_mm, ni_cl, ni_in, nI_add, ni_mul, ni_div, ni_rem, ni_rem2, fr_sub, fr_mm, fr_ge0, fr_lt0, fr_inj, l32_0, l32_1, l32_2, l32_3, l32_4, l32_5, l32_6, l32_7, l32_8, l32_9, l32_10, l32_11, l32_12, l32_13, l32_14, l32_15, l32_16, l32_20, l32_24, l32_25, l32_26, l32_31, l32_32, l32_34, l32_35, l32_39, l32_40, l32_44, l32_45, l32_46, l32_47, l32_48, l32_49, l32_57, l32_58, l32_59, l32_63, l32_64, l32_85, l32_90, l32_97, l32_99, l32_100, l32_110, l32_112, l32_122, l32_124, l32_125, l32_255, l32_680, l32_699, l32_700, l32_999, l32_2500, l32_99999, l32_100000, l32_1000000, if_true, if_false, ite_true, ite_false, ce_nm, Option.bind, if_pos, if_neg]; omega) (Ev.some ⟨rfl, ⟨fun _ _ _ _ _ => rfl, fun _ _ => rfl⟩, T, t, tp'⟩)
  · refine Ev.pos (by rw [c2, l32_20, nI_add]; simp (disch := omega) only [up_s, up_k, up_j, mm_neg, mm_def, ni_lt, ni_le, ni_eq, ni_mm, mm_ni, ni_lt_mm, ni_le_mm, mm_lt_ni, mm_le_ni, mm_lt_mm, mm_le_mm, ni_cl, ni_in, nI_add, ni_mul, ni_div, ni_rem, ni_rem2, fr_sub, fr_mm, fr_ge0, fr_lt0, fr_inj, l32_0, l32_1, l32_2, l32_3, l32_4, l32_5, l32_6, l32_7, l32_8, l32_9, l32_10, l32_11, l32_12, l32_13, l32_14, l32_15, l32_16, l32_20, l32_24, l32_25, l32_26, l32_31, l32_32, l32_34, l32_35, l32_39, l32_40, l32_44, l32_45, l32_46, l32_47, l32_48, l32_49, l32_57, l32_58, l32_59, l32_63, l32_64, l32_85, l32_90, l32_97, l32_99, l32_100, l32_110, l32_112, l32_122, l32_124, l32_125, l32_255, l32_680, l32_699, l32_700, l32_999, l32_2500, l32_99999, l32_100000, l32_1000000, if_true, if_false, ite_true, ite_false, ce_nm, Option.bind, if_pos, if_neg]; exact big) ?_
    refine Ev.bind (x_append x1 c2 (by omega) hF) (fun h1 a1 => ?_)
    refine Ev.bind (x_append x2 a1.2.2.1 (by omega) hF) (fun h2 a2 => ?_)
    refine Ev.bind (x_append x3 a2.2.2.1 (by omega) hF) (fun h3 a3 => ?_)
    refine Ev.bind (x_append x4 a3.2.2.1 (by omega) hF) (fun h4 a4 => ?_)
    refine Ev.bind (x_append x5 a4.2.2.1 (by omega) hF) (fun h5 a5 => Ev.some ?_)
    have fr5 : ∀ c, c ≠ 2 → c ≠ 3 → h5 c = h c := fun c q1 q2 => by rw [a5.1 c q1 q2, a4.1 c q1 q2, a3.1 c q1 q2, a2.1 c q1 q2, a1.1 c q1 q2]
    have u5 : h5 2 1 = nI (T + 20) := by rw [a5.2.2.1]
    have old : ∀ i, i < T → h5 3 i = h 3 i := fun i hi => by rw [a5.2.2.2.1 i (by omega), a4.2.2.2.1 i (by omega), a3.2.2.2.1 i (by omega), a2.2.2.2.1 i (by omega), a1.2.2.2.1 i hi]
    obtain ⟨v0, v1, v2, v3, v4⟩ := fv5_v x1 x2 x3 x4 x5
    have new : ∀ i, i < 20 → h5 3 (T + i) &&& 255 = fb (fv5 x1 x2 x3 x4 x5) i &&& 255 := fun i hi => by
      unfold fb
      rcases (show i / 4 = 0 ∨ i / 4 = 1 ∨ i / 4 = 2 ∨ i / 4 = 3 ∨ i / 4 = 4 by omega) with z | z | z | z | z
      · rw [z, v0, a5.2.2.2.1 _ (by omega), a4.2.2.2.1 _ (by omega), a3.2.2.2.1 _ (by omega), a2.2.2.2.1 _ (by omega), show T + i = T + i % 4 by omega, a1.2.2.2.2 _ (by omega), byte255]
      · rw [z, v1, a5.2.2.2.1 _ (by omega), a4.2.2.2.1 _ (by omega), a3.2.2.2.1 _ (by omega), show T + i = T + 4 + i % 4 by omega, a2.2.2.2.2 _ (by omega), byte255]
      · rw [z, v2, a5.2.2.2.1 _ (by omega), a4.2.2.2.1 _ (by omega), show T + i = T + 4 + 4 + i % 4 by omega, a3.2.2.2.2 _ (by omega), byte255]
      · rw [z, v3, a5.2.2.2.1 _ (by omega), show T + i = T + 4 + 4 + 4 + i % 4 by omega, a4.2.2.2.2 _ (by omega), byte255]
      · rw [z, v4, show T + i = T + 4 + 4 + 4 + 4 + i % 4 by omega, a5.2.2.2.2 _ (by omega), byte255]
    dsimp only
    unfold f12_feed
    refine Ev.pos (by rw [fr5 68 (by omega) (by omega), c68]; simp (disch := omega) only [up_s, up_k, up_j, mm_neg, mm_def, ni_lt, ni_le, ni_eq, ni_mm, mm_ni, ni_lt_mm, ni_le_mm, mm_lt_ni, mm_le_ni, mm_lt_mm, mm_le_mm, ni_cl, ni_in, nI_add, ni_mul, ni_div, ni_rem, ni_rem2, fr_sub, fr_mm, fr_ge0, fr_lt0, fr_inj, l32_0, l32_1, l32_2, l32_3, l32_4, l32_5, l32_6, l32_7, l32_8, l32_9, l32_10, l32_11, l32_12, l32_13, l32_14, l32_15, l32_16, l32_20, l32_24, l32_25, l32_26, l32_31, l32_32, l32_34, l32_35, l32_39, l32_40, l32_44, l32_45, l32_46, l32_47, l32_48, l32_49, l32_57, l32_58, l32_59, l32_63, l32_64, l32_85, l32_90, l32_97, l32_99, l32_100, l32_110, l32_112, l32_122, l32_124, l32_125, l32_255, l32_680, l32_699, l32_700, l32_999, l32_2500, l32_99999, l32_100000, l32_1000000, if_true, if_false, ite_true, ite_false, ce_nm, Option.bind, if_pos, if_neg]; omega) ?_
    refine Ev.bind (x_mfeed (T := T) (fv5 x1 x2 x3 x4 x5) (by rw [fr5 68 (by omega) (by omega)]; exact c68) big hF) (fun h6 a6 => Ev.nm (Ev.some ?_))
    obtain ⟨f6, o6, n6⟩ := a6
    have e6 : h6 68 4 + (20 : Int32) = nI (T + 20) := by rw [f6 68 (by omega), fr5 68 (by omega) (by omega), c68, l32_20, nI_add]
    rw [e6]
    obtain ⟨ff, hff⟩ := Classical.axiomOfChoice (fun i : Nat => and255 (fb (fv5 x1 x2 x3 x4 x5) i))
    refine ⟨by dsimp only; rw [u5, up_s], ⟨fun c q1 q2 q3 q4 => ?_, fun j hj => ?_⟩, T + 20, fun i => if i < T then t i else ff (i - T), by omega, ?_, ?_, fun i hi => ?_, ?_, ?_⟩
    · dsimp only; rw [up_kk _ _ _ _ _ q3, f6 c q4]; exact fr5 c q1 q2
    · dsimp only; rw [up_j _ _ _ _ _ hj, f6 68 (by omega), fr5 68 (by omega) (by omega)]
    · dsimp only; rw [up_k _ _ _ _ _ _ (by omega), f6 2 (by omega)]; exact u5
    · dsimp only; rw [up_s]
    · dsimp only
      rw [up_k _ _ _ _ _ _ (by omega), up_k _ _ _ _ _ _ (by omega), f6 3 (by omega)]
      by_cases z : i < T
      · rw [if_pos z, o6 i z, fr5 72 (by omega) (by omega), old i z]; exact rows i z
      · obtain ⟨q1, q2⟩ := hff (i - T)
        have w1 := n6 (i - T) (by omega)
        have w2 := new (i - T) (by omega)
        rw [show T + (i - T) = i by omega, q2] at w1 w2
        rw [if_neg z]
        exact ⟨q1, w1, w2⟩
    · dsimp only; rw [up_k _ _ _ _ _ _ (by omega), up_j _ _ _ _ _ (by omega), f6 1 (by omega), f6 68 (by omega), fr5 1 (by omega) (by omega), fr5 68 (by omega) (by omega)]; exact g1
    · dsimp only; rw [up_k _ _ _ _ _ _ (by omega), up_j _ _ _ _ _ (by omega), f6 1 (by omega), f6 68 (by omega), fr5 1 (by omega) (by omega), fr5 68 (by omega) (by omega)]; exact g2
theorem q_end {T F : Nat} {t : Nat → Nat} {h : Hp} (x : Int32) (tp : TP h T t) : Ev (f11_end F x h) (fun o => Ev (f12_end F x o.2) (fun p => o.1 = p.1 ∧ FrT h p.2 ∧ ∃ T' t', TP p.2 T' t')) := by
  have tp' := tp
  obtain ⟨hT, c2, c68, rows, g1, g2⟩ := tp
  have id0 : FrT h h := ⟨fun _ _ _ _ _ => rfl, fun _ _ => rfl⟩
  unfold f11_end
  rcases i32_of x with hx | ⟨a, ha, rfl⟩
  · refine Ev.pos hx (Ev.some ?_)
    unfold f12_end
    dsimp only
    rw [show (0 : Int64) = (0 : Int32).toInt64 from rfl, x_in, if_neg (fun q => by
      have a := Int32.le_iff_toInt_le.mp q.1
      have b := Int32.lt_iff_toInt_lt.mp hx
      have c0 : (nI 0).toInt = (0 : Int32).toInt := rfl
      omega)]
    exact ev_bs (Ev.pos rfl (Ev.some ⟨rfl, id0, T, t, tp'⟩))
  · refine Ev.neg (by simp (disch := omega) only [up_s, up_k, up_j, mm_neg, mm_def, ni_lt, ni_le, ni_eq, ni_mm, mm_ni, ni_lt_mm, ni_le_mm, mm_lt_ni, mm_le_ni, mm_lt_mm, mm_le_mm, ni_cl, ni_in, nI_add, ni_mul, ni_div, ni_rem, ni_rem2, fr_sub, fr_mm, fr_ge0, fr_lt0, fr_inj, l32_0, l32_1, l32_2, l32_3, l32_4, l32_5, l32_6, l32_7, l32_8, l32_9, l32_10, l32_11, l32_12, l32_13, l32_14, l32_15, l32_16, l32_20, l32_24, l32_25, l32_26, l32_31, l32_32, l32_34, l32_35, l32_39, l32_40, l32_44, l32_45, l32_46, l32_47, l32_48, l32_49, l32_57, l32_58, l32_59, l32_63, l32_64, l32_85, l32_90, l32_97, l32_99, l32_100, l32_110, l32_112, l32_122, l32_124, l32_125, l32_255, l32_680, l32_699, l32_700, l32_999, l32_2500, l32_99999, l32_100000, l32_1000000, if_true, if_false, ite_true, ite_false, ce_nm, Option.bind, if_pos, if_neg]; omega) ?_
    by_cases z : a ≤ T
    · refine Ev.pos (by rw [c2, ni_le (by omega) (by omega)]; exact z) (Ev.nm (Ev.some ?_))
      unfold f12_end
      dsimp only
      rw [up_k _ _ _ _ _ _ (by omega), c68, show (0 : Int64) = (0 : Int32).toInt64 from rfl, x_in, if_pos ⟨by simp (disch := omega) only [up_s, up_k, up_j, mm_neg, mm_def, ni_lt, ni_le, ni_eq, ni_mm, mm_ni, ni_lt_mm, ni_le_mm, mm_lt_ni, mm_le_ni, mm_lt_mm, mm_le_mm, ni_cl, ni_in, nI_add, ni_mul, ni_div, ni_rem, ni_rem2, fr_sub, fr_mm, fr_ge0, fr_lt0, fr_inj, l32_0, l32_1, l32_2, l32_3, l32_4, l32_5, l32_6, l32_7, l32_8, l32_9, l32_10, l32_11, l32_12, l32_13, l32_14, l32_15, l32_16, l32_20, l32_24, l32_25, l32_26, l32_31, l32_32, l32_34, l32_35, l32_39, l32_40, l32_44, l32_45, l32_46, l32_47, l32_48, l32_49, l32_57, l32_58, l32_59, l32_63, l32_64, l32_85, l32_90, l32_97, l32_99, l32_100, l32_110, l32_112, l32_122, l32_124, l32_125, l32_255, l32_680, l32_699, l32_700, l32_999, l32_2500, l32_99999, l32_100000, l32_1000000, if_true, if_false, ite_true, ite_false, ce_nm, Option.bind, if_pos, if_neg]; omega, by rw [ni_le (by omega) (by omega)]; exact z⟩]
      refine ev_bs (Ev.neg (by decide : ¬ (nI 1 : Int32) = 0) (Ev.nm (Ev.some ⟨rfl, ⟨fun c q1 q2 q3 q4 => ?_, fun j hj => ?_⟩, a, t, by omega, ?_, ?_, fun i hi => ?_, ?_, ?_⟩)))
      · dsimp only; rw [up_kk _ _ _ _ _ q3, up_kk _ _ _ _ _ q1]
      · dsimp only; rw [up_j _ _ _ _ _ hj, up_k _ _ _ _ _ _ (by omega)]
      · dsimp only; rw [up_k _ _ _ _ _ _ (by omega), up_s]
      · dsimp only; rw [up_s]
      · dsimp only; rw [up_k _ _ _ _ _ _ (by omega), up_k _ _ _ _ _ _ (by omega), up_k _ _ _ _ _ _ (by omega), up_k _ _ _ _ _ _ (by omega)]; exact rows i (by omega)
      · dsimp only; rw [up_k _ _ _ _ _ _ (by omega), up_k _ _ _ _ _ _ (by omega), up_j _ _ _ _ _ (by omega), up_k _ _ _ _ _ _ (by omega)]; exact g1
      · dsimp only; rw [up_k _ _ _ _ _ _ (by omega), up_k _ _ _ _ _ _ (by omega), up_j _ _ _ _ _ (by omega), up_k _ _ _ _ _ _ (by omega)]; exact g2
    · refine Ev.neg (by rw [c2, ni_le (by omega) (by omega)]; exact z) (Ev.some ?_)
      unfold f12_end
      dsimp only
      rw [c68, show (0 : Int64) = (0 : Int32).toInt64 from rfl, x_in, if_neg (fun q => by have := q.2; rw [ni_le (by omega) (by omega)] at this; exact z this)]
      exact ev_bs (Ev.pos rfl (Ev.some ⟨rfl, id0, T, t, tp'⟩))
