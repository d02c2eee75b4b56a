-- calls that cross: the coins' rounds
def bt (m : Nat → Nat) (v k : Nat) : Nat := m (35 + v) / 2 ^ (m (25 + v) - 1 - k % m (25 + v)) % 2
/-- t, rounds, who wins: 1 the first, 2 the second -/
def cw (a b : Nat → Nat) (L : Nat) : Nat → Nat → Nat → Nat × Nat × Nat
  | 0, i, t => (t, i, 2)
  | f + 1, i, t => if a i = b i then cw a b L f (i + 1) (t + (2 * L + if a i = 0 then 2 else 6)) else (t + (2 * L + 6), i + 1, if a i = 1 then 1 else 2)
theorem cw_z (a b : Nat → Nat) (L i t : Nat) : cw a b L 0 i t = (t, i, 2) := rfl
theorem cw_s (a b : Nat → Nat) (L f i t : Nat) : cw a b L (f + 1) i t = if a i = b i then cw a b L f (i + 1) (t + (2 * L + if a i = 0 then 2 else 6)) else (t + (2 * L + 6), i + 1, if a i = 1 then 1 else 2) := rfl
theorem cw_bd (a b : Nat → Nat) (L f : Nat) : ∀ i t, (cw a b L f i t).1 ≤ t + f * (2 * L + 6) ∧ (cw a b L f i t).2.1 ≤ i + f := by
  induction f with
  | zero => intro i t; rw [cw_z]; exact ⟨by simp, by simp⟩
  | succ f ih =>
    intro i t
    rw [cw_s]
    have e : (f + 1) * (2 * L + 6) = f * (2 * L + 6) + (2 * L + 6) := by rw [Nat.succ_mul]
    by_cases z : a i = b i
    · rw [if_pos z]
      have := ih (i + 1) (t + (2 * L + if a i = 0 then 2 else 6))
      have q : (if a i = 0 then 2 else 6) ≤ 6 := by by_cases q : a i = 0 <;> simp [q]
      refine ⟨?_, by omega⟩
      generalize (if a i = 0 then 2 else 6) = c at *
      omega
    · rw [if_neg z]
      refine ⟨?_, by dsimp only; omega⟩
      dsimp only
      omega
theorem bt_le (m : Nat → Nat) (v k : Nat) : bt m v k < 2 := Nat.mod_lt _ (by omega)
/-- the coins of a net -/
def OkB (m : Nat → Nat) : Prop := ∀ v, v < m 2 → 1 ≤ m (25 + v) ∧ m (25 + v) ≤ 8 ∧ m (35 + v) < 256
def CC (h : Hp) (k : Nat) (m : Nat → Nat) : Prop := ∀ v, v < m 2 → h (k + 4) v = nI (m (25 + v)) ∧ ∃ c, c < 256 ∧ h (k + 3) v = nI c ∧ ∀ i, i < m (25 + v) → c / 2 ^ i % 2 = m (35 + v) / 2 ^ (m (25 + v) - 1 - i) % 2
theorem x_bitOf {m : Nat → Nat} {v k F : Nat} {h : Hp} (h2 : m 2 ≤ 10) (ob : OkB m) (c : MN h m) (hv : v < m 2) (hk : k < 10) : f12_bitOf F (nI v) (nI k) h = some (nI (bt m v k), h) := by
  obtain ⟨b1, b2, b3⟩ := ob v hv
  have c1 : h 69 (25 + v) = nI (m (25 + v)) := c _ (by omega)
  have c2 : h 69 (35 + v) = nI (m (35 + v)) := c _ (by omega)
  have e25 : (25 : Int32) + nI v = nI (25 + v) := by rw [l32_25, nI_add]
  have e35 : (35 : Int32) + nI v = nI (35 + v) := by rw [l32_35, nI_add]
  have hr : k % m (25 + v) < m (25 + v) := Nat.mod_lt _ (by omega)
  have e1 : nI (m (25 + v)) - 1 - (nI k - nI k / nI (m (25 + v)) * nI (m (25 + v))) = nI (m (25 + v) - 1 - k % m (25 + v)) := by
    rw [ni_div (by omega) (by omega) (by omega), ni_rem (by omega) (by omega) (by omega), l32_1, ni_sub (by omega), ni_sub (by omega)]
  unfold f12_bitOf
  rw [e25, e35, ni_cl (by omega), ni_cl (by omega), c1, c2, e1, if_pos (ni_in (by omega) (by omega)), if_pos (ni_in (by omega) (by omega)), if_pos (ni_in (by omega) (by omega)), if_pos (by simp (disch := omega) only [up_s, up_k, up_j, mm_neg, mm_def, ni_lt, ni_le, ni_eq, ni_mm, mm_ni, ni_lt_mm, ni_le_mm, mm_lt_ni, mm_le_ni, mm_lt_mm, mm_le_mm, ni_cl, ni_in, nI_add, ni_mul, ni_div, ni_rem, ni_rem2, fr_sub, fr_mm, fr_ge0, fr_lt0, fr_inj, l32_0, l32_1, l32_2, l32_3, l32_4, l32_5, l32_6, l32_7, l32_8, l32_9, l32_10, l32_11, l32_12, l32_13, l32_14, l32_15, l32_16, l32_20, l32_24, l32_25, l32_26, l32_31, l32_32, l32_34, l32_35, l32_39, l32_40, l32_44, l32_45, l32_46, l32_47, l32_48, l32_49, l32_57, l32_58, l32_59, l32_63, l32_64, l32_85, l32_90, l32_97, l32_99, l32_100, l32_110, l32_112, l32_122, l32_124, l32_125, l32_255, l32_680, l32_699, l32_700, l32_999, l32_2500, l32_99999, l32_100000, l32_1000000, if_true, if_false, ite_true, ite_false, ce_nm, Option.bind, if_pos, if_neg]; omega)]
  have := bit_s ⟨m (35 + v), b3⟩ ⟨m (25 + v) - 1 - k % m (25 + v), by omega⟩
  dsimp only at this
  rw [this]
  rfl
theorem x_coinOf {m : Nat → Nat} {v k kn F : Nat} {h : Hp} (h2 : m 2 ≤ 10) (ob : OkB m) (cc : CC h kn m) (hv : v < m 2) (hk : k < 10) : f5_coinOf F kn (nI v) (nI k) h = some (nI (bt m v k), h) := by
  obtain ⟨b1, b2, b3⟩ := ob v hv
  obtain ⟨c1, x, hx, c2, c3⟩ := cc v hv
  have hr : k % m (25 + v) < m (25 + v) := Nat.mod_lt _ (by omega)
  have e1 : nI k - nI k / nI (m (25 + v)) * nI (m (25 + v)) = nI (k % m (25 + v)) := by
    rw [ni_div (by omega) (by omega) (by omega), ni_rem (by omega) (by omega) (by omega)]
  unfold f5_coinOf
  rw [ni_cl (by omega), c1, c2, e1, if_pos (ni_in (by omega) (by omega)), if_pos (by simp (disch := omega) only [up_s, up_k, up_j, mm_neg, mm_def, ni_lt, ni_le, ni_eq, ni_mm, mm_ni, ni_lt_mm, ni_le_mm, mm_lt_ni, mm_le_ni, mm_lt_mm, mm_le_mm, ni_cl, ni_in, nI_add, ni_mul, ni_div, ni_rem, ni_rem2, fr_sub, fr_mm, fr_ge0, fr_lt0, fr_inj, l32_0, l32_1, l32_2, l32_3, l32_4, l32_5, l32_6, l32_7, l32_8, l32_9, l32_10, l32_11, l32_12, l32_13, l32_14, l32_15, l32_16, l32_20, l32_24, l32_25, l32_26, l32_31, l32_32, l32_34, l32_35, l32_39, l32_40, l32_44, l32_45, l32_46, l32_47, l32_48, l32_49, l32_57, l32_58, l32_59, l32_63, l32_64, l32_85, l32_90, l32_97, l32_99, l32_100, l32_110, l32_112, l32_122, l32_124, l32_125, l32_255, l32_680, l32_699, l32_700, l32_999, l32_2500, l32_99999, l32_100000, l32_1000000, if_true, if_false, ite_true, ite_false, ce_nm, Option.bind, if_pos, if_neg]; omega), if_pos (ni_in (by omega) (by omega)), if_pos (ni_in (by omega) (by omega)), if_pos (by simp (disch := omega) only [up_s, up_k, up_j, mm_neg, mm_def, ni_lt, ni_le, ni_eq, ni_mm, mm_ni, ni_lt_mm, ni_le_mm, mm_lt_ni, mm_le_ni, mm_lt_mm, mm_le_mm, ni_cl, ni_in, nI_add, ni_mul, ni_div, ni_rem, ni_rem2, fr_sub, fr_mm, fr_ge0, fr_lt0, fr_inj, l32_0, l32_1, l32_2, l32_3, l32_4, l32_5, l32_6, l32_7, l32_8, l32_9, l32_10, l32_11, l32_12, l32_13, l32_14, l32_15, l32_16, l32_20, l32_24, l32_25, l32_26, l32_31, l32_32, l32_34, l32_35, l32_39, l32_40, l32_44, l32_45, l32_46, l32_47, l32_48, l32_49, l32_57, l32_58, l32_59, l32_63, l32_64, l32_85, l32_90, l32_97, l32_99, l32_100, l32_110, l32_112, l32_122, l32_124, l32_125, l32_255, l32_680, l32_699, l32_700, l32_999, l32_2500, l32_99999, l32_100000, l32_1000000, if_true, if_false, ite_true, ite_false, ce_nm, Option.bind, if_pos, if_neg]; omega)]
  have := bit_u ⟨x, hx⟩ ⟨k % m (25 + v), by omega⟩
  dsimp only at this
  rw [this, c3 _ hr]
  rfl
/-- the reference's rounds -/
theorem x_meets_loop {m : Nat → Nat} {v w L T F : Nat} {h : Hp} (h2 : m 2 ≤ 10) (ob : OkB m) (c : MN h m) (hv : v < m 2) (hw : w < m 2) (hF : 1000 ≤ F) :
    Ev (ce_it (fun (st : Int32 × Int32 × Int32 × Hp) => f12_meets_b108 F (nI v) (nI w) (nI L) st.1 st.2.1 st.2.2.1 st.2.2.2) F (nI T, (0 : Int32), (-1 : Int32), h)) (fun o => o = (nI (cw (bt m v) (bt m w) L 10 0 T).1, nI (cw (bt m v) (bt m w) L 10 0 T).2.1, (if (cw (bt m v) (bt m w) L 10 0 T).2.2 = 1 then nI v else nI w), h)) := by
  generalize hR : cw (bt m v) (bt m w) L 10 0 T = R
  refine Ev.it (I := fun i st => (∃ t, i ≤ 10 ∧ st = (nI t, nI i, mm, h) ∧ cw (bt m v) (bt m w) L (10 - i) i t = R) ∨ st = (nI R.1, nI R.2.1, (if R.2.2 = 1 then nI v else nI w), h)) _ 12 ?_ F 0 _ (by omega) (by omega) (Or.inl ⟨T, by omega, rfl, hR⟩)
  rintro i ⟨x4, x5, x6, h1⟩ hi hI
  have nxt : nI i + 1 = nI (i + 1) := nI_1 _
  rcases hI with ⟨t, hi10, e, hc⟩ | e
  · obtain ⟨rfl, rfl, rfl, rfl⟩ : x4 = nI t ∧ x5 = nI i ∧ x6 = mm ∧ h1 = h := by simpa using e
    show Ev (f12_meets_b108 F (nI v) (nI w) (nI L) (nI t) (nI i) mm h1) _
    unfold f12_meets_b108
    refine Ev.pos rfl ?_
    by_cases z : i = 10
    · subst z
      refine Ev.pos (by simp (disch := omega) only [up_s, up_k, up_j, mm_neg, mm_def, ni_lt, ni_le, ni_eq, ni_mm, mm_ni, ni_lt_mm, ni_le_mm, mm_lt_ni, mm_le_ni, mm_lt_mm, mm_le_mm, ni_cl, ni_in, nI_add, ni_mul, ni_div, ni_rem, ni_rem2, fr_sub, fr_mm, fr_ge0, fr_lt0, fr_inj, l32_0, l32_1, l32_2, l32_3, l32_4, l32_5, l32_6, l32_7, l32_8, l32_9, l32_10, l32_11, l32_12, l32_13, l32_14, l32_15, l32_16, l32_20, l32_24, l32_25, l32_26, l32_31, l32_32, l32_34, l32_35, l32_39, l32_40, l32_44, l32_45, l32_46, l32_47, l32_48, l32_49, l32_57, l32_58, l32_59, l32_63, l32_64, l32_85, l32_90, l32_97, l32_99, l32_100, l32_110, l32_112, l32_122, l32_124, l32_125, l32_255, l32_680, l32_699, l32_700, l32_999, l32_2500, l32_99999, l32_100000, l32_1000000, if_true, if_false, ite_true, ite_false, ce_nm, Option.bind, if_pos, if_neg]) (Ev.some ⟨by omega, Or.inr ?_⟩)
      rw [show 10 - 10 = 0 from rfl, cw_z] at hc
      rw [← hc]
      rfl
    · refine Ev.neg (by simp (disch := omega) only [up_s, up_k, up_j, mm_neg, mm_def, ni_lt, ni_le, ni_eq, ni_mm, mm_ni, ni_lt_mm, ni_le_mm, mm_lt_ni, mm_le_ni, mm_lt_mm, mm_le_mm, ni_cl, ni_in, nI_add, ni_mul, ni_div, ni_rem, ni_rem2, fr_sub, fr_mm, fr_ge0, fr_lt0, fr_inj, l32_0, l32_1, l32_2, l32_3, l32_4, l32_5, l32_6, l32_7, l32_8, l32_9, l32_10, l32_11, l32_12, l32_13, l32_14, l32_15, l32_16, l32_20, l32_24, l32_25, l32_26, l32_31, l32_32, l32_34, l32_35, l32_39, l32_40, l32_44, l32_45, l32_46, l32_47, l32_48, l32_49, l32_57, l32_58, l32_59, l32_63, l32_64, l32_85, l32_90, l32_97, l32_99, l32_100, l32_110, l32_112, l32_122, l32_124, l32_125, l32_255, l32_680, l32_699, l32_700, l32_999, l32_2500, l32_99999, l32_100000, l32_1000000, if_true, if_false, ite_true, ite_false, ce_nm, Option.bind, if_pos, if_neg]; exact z) ?_
      rw [x_bitOf h2 ob c hv (by omega)]
      refine ev_bs ?_
      dsimp only
      rw [x_bitOf h2 ob c hw (by omega)]
      refine ev_bs ?_
      dsimp only
      obtain ⟨f, hf⟩ : ∃ f, 10 - i = f + 1 := ⟨9 - i, by omega⟩
      have hf2 : 10 - (i + 1) = f := by omega
      rw [hf, cw_s] at hc
      have a2 := bt_le m v i
      have b2 := bt_le m w i
      generalize bt m v i = a at hc a2
      generalize bt m w i = b at hc b2
      have e2 : nI t + ((2 : Int32) * nI L + 2) = nI (t + (2 * L + 2)) := by rw [l32_2, ni_mul, nI_add, nI_add]
      have e6 : nI t + ((2 : Int32) * nI L + 6) = nI (t + (2 * L + 6)) := by rw [l32_2, l32_6, ni_mul, nI_add, nI_add]
      rw [e2, e6, nxt]
      by_cases ab : a = b
      · subst ab
        rw [if_pos rfl] at hc
        refine Ev.pos rfl ?_
        by_cases a0 : a = 0
        · subst a0
          refine Ev.pos rfl (Ev.pos rfl (Ev.some ⟨by omega, Or.inl ⟨t + (2 * L + 2), by omega, rfl, ?_⟩⟩))
          rw [hf2]
          simpa using hc
        · rw [if_neg a0] at hc
          refine Ev.neg (by simp (disch := omega) only [up_s, up_k, up_j, mm_neg, mm_def, ni_lt, ni_le, ni_eq, ni_mm, mm_ni, ni_lt_mm, ni_le_mm, mm_lt_ni, mm_le_ni, mm_lt_mm, mm_le_mm, ni_cl, ni_in, nI_add, ni_mul, ni_div, ni_rem, ni_rem2, fr_sub, fr_mm, fr_ge0, fr_lt0, fr_inj, l32_0, l32_1, l32_2, l32_3, l32_4, l32_5, l32_6, l32_7, l32_8, l32_9, l32_10, l32_11, l32_12, l32_13, l32_14, l32_15, l32_16, l32_20, l32_24, l32_25, l32_26, l32_31, l32_32, l32_34, l32_35, l32_39, l32_40, l32_44, l32_45, l32_46, l32_47, l32_48, l32_49, l32_57, l32_58, l32_59, l32_63, l32_64, l32_85, l32_90, l32_97, l32_99, l32_100, l32_110, l32_112, l32_122, l32_124, l32_125, l32_255, l32_680, l32_699, l32_700, l32_999, l32_2500, l32_99999, l32_100000, l32_1000000, if_true, if_false, ite_true, ite_false, ce_nm, Option.bind, if_pos, if_neg]; exact a0) (Ev.some ⟨by omega, Or.inl ⟨t + (2 * L + 6), by omega, rfl, ?_⟩⟩)
          rw [hf2]
          exact hc
      · rw [if_neg ab] at hc
        refine Ev.neg (by simp (disch := omega) only [up_s, up_k, up_j, mm_neg, mm_def, ni_lt, ni_le, ni_eq, ni_mm, mm_ni, ni_lt_mm, ni_le_mm, mm_lt_ni, mm_le_ni, mm_lt_mm, mm_le_mm, ni_cl, ni_in, nI_add, ni_mul, ni_div, ni_rem, ni_rem2, fr_sub, fr_mm, fr_ge0, fr_lt0, fr_inj, l32_0, l32_1, l32_2, l32_3, l32_4, l32_5, l32_6, l32_7, l32_8, l32_9, l32_10, l32_11, l32_12, l32_13, l32_14, l32_15, l32_16, l32_20, l32_24, l32_25, l32_26, l32_31, l32_32, l32_34, l32_35, l32_39, l32_40, l32_44, l32_45, l32_46, l32_47, l32_48, l32_49, l32_57, l32_58, l32_59, l32_63, l32_64, l32_85, l32_90, l32_97, l32_99, l32_100, l32_110, l32_112, l32_122, l32_124, l32_125, l32_255, l32_680, l32_699, l32_700, l32_999, l32_2500, l32_99999, l32_100000, l32_1000000, if_true, if_false, ite_true, ite_false, ce_nm, Option.bind, if_pos, if_neg]; exact ab) ?_
        by_cases a1 : a = 1
        · subst a1
          refine Ev.pos rfl (Ev.neg (by decide) (Ev.some ⟨by omega, Or.inr ?_⟩))
          rw [← hc]
          rfl
        · have a0 : a = 0 := by omega
          have b1 : b = 1 := by omega
          subst a0
          subst b1
          refine Ev.neg (by decide) (Ev.pos rfl (Ev.neg (by decide) (Ev.some ⟨by omega, Or.inr ?_⟩)))
          rw [← hc]
          rfl
  · obtain ⟨rfl, rfl, rfl, rfl⟩ : x4 = nI R.1 ∧ x5 = nI R.2.1 ∧ x6 = (if R.2.2 = 1 then nI v else nI w) ∧ h1 = h := by simpa using e
    show Ev (f12_meets_b108 F (nI v) (nI w) (nI L) (nI R.1) (nI R.2.1) (if R.2.2 = 1 then nI v else nI w) h1) _
    unfold f12_meets_b108
    refine Ev.neg ?_ (Ev.some rfl)
    by_cases z : R.2.2 = 1
    · rw [if_pos z]; simp (disch := omega) only [up_s, up_k, up_j, mm_neg, mm_def, ni_lt, ni_le, ni_eq, ni_mm, mm_ni, ni_lt_mm, ni_le_mm, mm_lt_ni, mm_le_ni, mm_lt_mm, mm_le_mm, ni_cl, ni_in, nI_add, ni_mul, ni_div, ni_rem, ni_rem2, fr_sub, fr_mm, fr_ge0, fr_lt0, fr_inj, l32_0, l32_1, l32_2, l32_3, l32_4, l32_5, l32_6, l32_7, l32_8, l32_9, l32_10, l32_11, l32_12, l32_13, l32_14, l32_15, l32_16, l32_20, l32_24, l32_25, l32_26, l32_31, l32_32, l32_34, l32_35, l32_39, l32_40, l32_44, l32_45, l32_46, l32_47, l32_48, l32_49, l32_57, l32_58, l32_59, l32_63, l32_64, l32_85, l32_90, l32_97, l32_99, l32_100, l32_110, l32_112, l32_122, l32_124, l32_125, l32_255, l32_680, l32_699, l32_700, l32_999, l32_2500, l32_99999, l32_100000, l32_1000000, if_true, if_false, ite_true, ite_false, ce_nm, Option.bind, if_pos, if_neg]; exact id
    · rw [if_neg z]; simp (disch := omega) only [up_s, up_k, up_j, mm_neg, mm_def, ni_lt, ni_le, ni_eq, ni_mm, mm_ni, ni_lt_mm, ni_le_mm, mm_lt_ni, mm_le_ni, mm_lt_mm, mm_le_mm, ni_cl, ni_in, nI_add, ni_mul, ni_div, ni_rem, ni_rem2, fr_sub, fr_mm, fr_ge0, fr_lt0, fr_inj, l32_0, l32_1, l32_2, l32_3, l32_4, l32_5, l32_6, l32_7, l32_8, l32_9, l32_10, l32_11, l32_12, l32_13, l32_14, l32_15, l32_16, l32_20, l32_24, l32_25, l32_26, l32_31, l32_32, l32_34, l32_35, l32_39, l32_40, l32_44, l32_45, l32_46, l32_47, l32_48, l32_49, l32_57, l32_58, l32_59, l32_63, l32_64, l32_85, l32_90, l32_97, l32_99, l32_100, l32_110, l32_112, l32_122, l32_124, l32_125, l32_255, l32_680, l32_699, l32_700, l32_999, l32_2500, l32_99999, l32_100000, l32_1000000, if_true, if_false, ite_true, ite_false, ce_nm, Option.bind, if_pos, if_neg]; exact id
