-- the net in the class, and its walk
def og (m : Nat → Nat) : Nat → Nat := fun e => m (45 + e)
def un (f : Nat → Nat) (k x : Nat) : Nat → Nat := fun j => if j = k then x else f j
theorem un_s (f : Nat → Nat) (k x : Nat) : un f k x k = x := by simp [un]
theorem un_n {f : Nat → Nat} {k x j : Nat} (h : j ≠ k) : un f k x j = f j := by simp [un, h]
/-- a net that can be: ports, delay, cables -/
def OkG (m : Nat → Nat) : Prop := m 1 ≤ 9 ∧ m 2 ≤ 10 ∧ (∀ v, v < m 2 → 1 ≤ m (5 + v) ∧ m (5 + v) ≤ 4) ∧ Gr (og m) ∧ ∀ e, e < 40 → og m e ≠ 0 → e / 4 < m 2 ∧ e % 4 < m (5 + e / 4) ∧ 1 ≤ m (85 + e) ∧ m (85 + e) ≤ 9 ∧ m (85 + (og m e - 1)) = m (85 + e)
/-- the class's net at cell k is m, as far as ways go -/
def CNw (h : Hp) (k : Nat) (m : Nat → Nat) : Prop := h k 2 = nI (m 1) ∧ h k 3 = nI (m 2) ∧ (∀ v, v < m 2 → h (k + 1) v = nI (m (5 + v))) ∧ (∀ e, e < 40 → h (k + 5) e = fr (og m e)) ∧ ∀ e, e < 40 → og m e ≠ 0 → h (k + 6) e = nI (m (85 + e))
def cu (o : Nat → Nat) (lx : Nat) : Nat → Nat := fun e => if e + 1 = lx ∨ o e = lx then 0 else o e
theorem cu_0 (o : Nat → Nat) (e : Nat) : cu o 0 e = o e := by
  unfold cu
  by_cases h : o e = 0
  · simp [h]
  · simp [h]
theorem cu_ne {o : Nat → Nat} {lx e : Nat} (h : cu o lx e ≠ 0) : o e ≠ 0 ∧ e + 1 ≠ lx ∧ o e ≠ lx ∧ cu o lx e = o e := by
  unfold cu at h ⊢
  by_cases c : e + 1 = lx ∨ o e = lx
  · rw [if_pos c] at h; exact absurd rfl h
  · rw [if_neg c] at h ⊢
    exact ⟨h, fun z => c (Or.inl z), fun z => c (Or.inr z), rfl⟩
theorem cu_gr {o : Nat → Nat} (g : Gr o) (lx : Nat) : Gr (cu o lx) := by
  intro e he h0
  obtain ⟨a1, a2, a3, a4⟩ := cu_ne h0
  obtain ⟨g1, g2, g3⟩ := g e he a1
  rw [a4]
  refine ⟨g1, ?_, g3⟩
  unfold cu
  rw [if_neg (by rw [g2]; omega)]
  exact g2
/-- cells 40 to 43 alone may differ -/
def Fw (h h' : Hp) : Prop := ∀ c, c ≠ 40 → c ≠ 41 → c ≠ 42 → c ≠ 43 → h' c = h c
theorem Fw.refl (h : Hp) : Fw h h := fun _ _ _ _ _ => rfl
theorem Fw.trans {h1 h2 h3 : Hp} (a : Fw h1 h2) (b : Fw h2 h3) : Fw h1 h3 := fun c c1 c2 c3 c4 => (b c c1 c2 c3 c4).trans (a c c1 c2 c3 c4)
theorem CNw.fw {h h' : Hp} {k : Nat} {m : Nat → Nat} (hk : ce_isNet k) (f : Fw h h') (c : CNw h k m) : CNw h' k m := by
  have e0 : ∀ j, j < 7 → h' (k + j) = h (k + j) := fun j hj => f (k + j) (by rcases hk with rfl | rfl <;> omega) (by rcases hk with rfl | rfl <;> omega) (by rcases hk with rfl | rfl <;> omega) (by rcases hk with rfl | rfl <;> omega)
  obtain ⟨c1, c2, c3, c4, c5⟩ := c
  have e1 := e0 0 (by omega)
  have e2 := e0 1 (by omega)
  have e3 := e0 5 (by omega)
  have e4 := e0 6 (by omega)
  rw [Nat.add_zero] at e1
  exact ⟨by rw [e1]; exact c1, by rw [e1]; exact c2, fun v hv => by rw [e2]; exact c3 v hv, fun e he => by rw [e3]; exact c4 e he, fun e he h0 => by rw [e4]; exact c5 e he h0⟩
/-- the walk's rows: s reached, in the order q; hp: 1 + cables, dy: 1 + delay, 0 where not reached -/
def Bs (h : Hp) (s : Nat) (q hp dy : Nat → Nat) : Prop := h 40 0 = nI s ∧ s ≤ 10 ∧ (∀ i, i < s → h 41 i = nI (q i) ∧ q i < 10) ∧ (∀ v, v < 10 → h 43 v = fr (hp v) ∧ h 42 v = fr (dy v)) ∧ (∀ i j, i < s → j < s → q i = q j → i = j) ∧ (∀ v, v < 10 → (hp v ≠ 0 ↔ ∃ i, i < s ∧ q i = v)) ∧ ∀ v, v < 10 → hp v ≤ s ∧ dy v ≤ 20 * hp v ∧ (hp v ≠ 0 → dy v ≠ 0)
theorem x_reach {F s w d c : Nat} {h : Hp} {q hp dy : Nat → Nat} (B : Bs h s q hp dy) (hw : w < 10) : f10_reach F (nI w) (nI d) (nI c) h = some (if hp w = 0 ∧ s < 10 then hp_up (hp_up (hp_up (hp_up h 41 s (nI w)) 42 w (nI d)) 43 w (nI c)) 40 0 (nI (s + 1)) else h) := by
  obtain ⟨b1, b2, b3, b4, b5, b6, b7⟩ := B
  obtain ⟨b8, b9⟩ := b4 w hw
  have b10 := (b7 w hw).1
  unfold f10_reach
  by_cases h10 : s < 10
  · by_cases h0 : hp w = 0
    · simp (disch := omega) only [up_s, up_k, up_j, mm_neg, mm_def, ni_lt, ni_le, ni_eq, ni_mm, mm_ni, ni_lt_mm, ni_le_mm, mm_lt_ni, mm_le_ni, mm_lt_mm, mm_le_mm, ni_cl, ni_in, nI_add, ni_mul, ni_div, ni_rem, ni_rem2, fr_sub, fr_mm, fr_ge0, fr_lt0, fr_inj, l32_0, l32_1, l32_2, l32_3, l32_4, l32_5, l32_6, l32_7, l32_8, l32_9, l32_10, l32_11, l32_12, l32_13, l32_14, l32_15, l32_16, l32_20, l32_24, l32_25, l32_26, l32_31, l32_32, l32_34, l32_35, l32_39, l32_40, l32_44, l32_45, l32_46, l32_47, l32_48, l32_49, l32_57, l32_58, l32_59, l32_63, l32_64, l32_85, l32_90, l32_97, l32_99, l32_100, l32_110, l32_112, l32_122, l32_124, l32_125, l32_255, l32_680, l32_699, l32_700, l32_999, l32_2500, l32_99999, l32_100000, l32_1000000, if_true, if_false, ite_true, ite_false, ce_nm, Option.bind, if_pos, if_neg, b1, b8, h0, fr_0, h10, and_true]
    · simp (disch := omega) only [up_s, up_k, up_j, mm_neg, mm_def, ni_lt, ni_le, ni_eq, ni_mm, mm_ni, ni_lt_mm, ni_le_mm, mm_lt_ni, mm_le_ni, mm_lt_mm, mm_le_mm, ni_cl, ni_in, nI_add, ni_mul, ni_div, ni_rem, ni_rem2, fr_sub, fr_mm, fr_ge0, fr_lt0, fr_inj, l32_0, l32_1, l32_2, l32_3, l32_4, l32_5, l32_6, l32_7, l32_8, l32_9, l32_10, l32_11, l32_12, l32_13, l32_14, l32_15, l32_16, l32_20, l32_24, l32_25, l32_26, l32_31, l32_32, l32_34, l32_35, l32_39, l32_40, l32_44, l32_45, l32_46, l32_47, l32_48, l32_49, l32_57, l32_58, l32_59, l32_63, l32_64, l32_85, l32_90, l32_97, l32_99, l32_100, l32_110, l32_112, l32_122, l32_124, l32_125, l32_255, l32_680, l32_699, l32_700, l32_999, l32_2500, l32_99999, l32_100000, l32_1000000, if_true, if_false, ite_true, ite_false, ce_nm, Option.bind, if_pos, if_neg, b1, b8, h0, h10, and_true, false_and]
  · simp (disch := omega) only [up_s, up_k, up_j, mm_neg, mm_def, ni_lt, ni_le, ni_eq, ni_mm, mm_ni, ni_lt_mm, ni_le_mm, mm_lt_ni, mm_le_ni, mm_lt_mm, mm_le_mm, ni_cl, ni_in, nI_add, ni_mul, ni_div, ni_rem, ni_rem2, fr_sub, fr_mm, fr_ge0, fr_lt0, fr_inj, l32_0, l32_1, l32_2, l32_3, l32_4, l32_5, l32_6, l32_7, l32_8, l32_9, l32_10, l32_11, l32_12, l32_13, l32_14, l32_15, l32_16, l32_20, l32_24, l32_25, l32_26, l32_31, l32_32, l32_34, l32_35, l32_39, l32_40, l32_44, l32_45, l32_46, l32_47, l32_48, l32_49, l32_57, l32_58, l32_59, l32_63, l32_64, l32_85, l32_90, l32_97, l32_99, l32_100, l32_110, l32_112, l32_122, l32_124, l32_125, l32_255, l32_680, l32_699, l32_700, l32_999, l32_2500, l32_99999, l32_100000, l32_1000000, if_true, if_false, ite_true, ite_false, ce_nm, Option.bind, if_pos, if_neg, b1, h10, and_false]
theorem Bs.push {s w d c : Nat} {h : Hp} {q hp dy : Nat → Nat} (B : Bs h s q hp dy) (hw : w < 10) (h0 : hp w = 0) (hs : s < 10) (hc : c < s + 1) (hd : d + 1 ≤ 20 * (c + 1)) : Bs (hp_up (hp_up (hp_up (hp_up h 41 s (nI w)) 42 w (nI d)) 43 w (nI c)) 40 0 (nI (s + 1))) (s + 1) (un q s w) (un hp w (c + 1)) (un dy w (d + 1)) := by
  obtain ⟨b1, b2, b3, b4, b5, b6, b7⟩ := B
  have hq : ∀ i, i < s → q i ≠ w := fun i hi hh => (b6 w hw).mpr ⟨i, hi, hh⟩ h0
  refine ⟨by simp (disch := omega) only [up_s, up_k, up_j, mm_neg, mm_def, ni_lt, ni_le, ni_eq, ni_mm, mm_ni, ni_lt_mm, ni_le_mm, mm_lt_ni, mm_le_ni, mm_lt_mm, mm_le_mm, ni_cl, ni_in, nI_add, ni_mul, ni_div, ni_rem, ni_rem2, fr_sub, fr_mm, fr_ge0, fr_lt0, fr_inj, l32_0, l32_1, l32_2, l32_3, l32_4, l32_5, l32_6, l32_7, l32_8, l32_9, l32_10, l32_11, l32_12, l32_13, l32_14, l32_15, l32_16, l32_20, l32_24, l32_25, l32_26, l32_31, l32_32, l32_34, l32_35, l32_39, l32_40, l32_44, l32_45, l32_46, l32_47, l32_48, l32_49, l32_57, l32_58, l32_59, l32_63, l32_64, l32_85, l32_90, l32_97, l32_99, l32_100, l32_110, l32_112, l32_122, l32_124, l32_125, l32_255, l32_680, l32_699, l32_700, l32_999, l32_2500, l32_99999, l32_100000, l32_1000000, if_true, if_false, ite_true, ite_false, ce_nm, Option.bind, if_pos, if_neg], by omega, fun i hi => ?_, fun v hv => ?_, fun i j hi hj hij => ?_, fun v hv => ?_, fun v hv => ?_⟩
  · by_cases e : i = s
    · subst e
      simp (disch := omega) only [up_s, up_k, up_j, mm_neg, mm_def, ni_lt, ni_le, ni_eq, ni_mm, mm_ni, ni_lt_mm, ni_le_mm, mm_lt_ni, mm_le_ni, mm_lt_mm, mm_le_mm, ni_cl, ni_in, nI_add, ni_mul, ni_div, ni_rem, ni_rem2, fr_sub, fr_mm, fr_ge0, fr_lt0, fr_inj, l32_0, l32_1, l32_2, l32_3, l32_4, l32_5, l32_6, l32_7, l32_8, l32_9, l32_10, l32_11, l32_12, l32_13, l32_14, l32_15, l32_16, l32_20, l32_24, l32_25, l32_26, l32_31, l32_32, l32_34, l32_35, l32_39, l32_40, l32_44, l32_45, l32_46, l32_47, l32_48, l32_49, l32_57, l32_58, l32_59, l32_63, l32_64, l32_85, l32_90, l32_97, l32_99, l32_100, l32_110, l32_112, l32_122, l32_124, l32_125, l32_255, l32_680, l32_699, l32_700, l32_999, l32_2500, l32_99999, l32_100000, l32_1000000, if_true, if_false, ite_true, ite_false, ce_nm, Option.bind, if_pos, if_neg, un_s]
      exact ⟨trivial, hw⟩
    · have e1 : i ≠ s := e
      simp (disch := omega) only [up_s, up_k, up_j, mm_neg, mm_def, ni_lt, ni_le, ni_eq, ni_mm, mm_ni, ni_lt_mm, ni_le_mm, mm_lt_ni, mm_le_ni, mm_lt_mm, mm_le_mm, ni_cl, ni_in, nI_add, ni_mul, ni_div, ni_rem, ni_rem2, fr_sub, fr_mm, fr_ge0, fr_lt0, fr_inj, l32_0, l32_1, l32_2, l32_3, l32_4, l32_5, l32_6, l32_7, l32_8, l32_9, l32_10, l32_11, l32_12, l32_13, l32_14, l32_15, l32_16, l32_20, l32_24, l32_25, l32_26, l32_31, l32_32, l32_34, l32_35, l32_39, l32_40, l32_44, l32_45, l32_46, l32_47, l32_48, l32_49, l32_57, l32_58, l32_59, l32_63, l32_64, l32_85, l32_90, l32_97, l32_99, l32_100, l32_110, l32_112, l32_122, l32_124, l32_125, l32_255, l32_680, l32_699, l32_700, l32_999, l32_2500, l32_99999, l32_100000, l32_1000000, if_true, if_false, ite_true, ite_false, ce_nm, Option.bind, if_pos, if_neg, un_n e1]
      exact b3 i (by omega)
  · by_cases e : v = w
    · subst e
      simp (disch := omega) only [up_s, up_k, up_j, mm_neg, mm_def, ni_lt, ni_le, ni_eq, ni_mm, mm_ni, ni_lt_mm, ni_le_mm, mm_lt_ni, mm_le_ni, mm_lt_mm, mm_le_mm, ni_cl, ni_in, nI_add, ni_mul, ni_div, ni_rem, ni_rem2, fr_sub, fr_mm, fr_ge0, fr_lt0, fr_inj, l32_0, l32_1, l32_2, l32_3, l32_4, l32_5, l32_6, l32_7, l32_8, l32_9, l32_10, l32_11, l32_12, l32_13, l32_14, l32_15, l32_16, l32_20, l32_24, l32_25, l32_26, l32_31, l32_32, l32_34, l32_35, l32_39, l32_40, l32_44, l32_45, l32_46, l32_47, l32_48, l32_49, l32_57, l32_58, l32_59, l32_63, l32_64, l32_85, l32_90, l32_97, l32_99, l32_100, l32_110, l32_112, l32_122, l32_124, l32_125, l32_255, l32_680, l32_699, l32_700, l32_999, l32_2500, l32_99999, l32_100000, l32_1000000, if_true, if_false, ite_true, ite_false, ce_nm, Option.bind, if_pos, if_neg, un_s, fr_s]
      exact ⟨trivial, trivial⟩
    · have e1 : v ≠ w := e
      simp (disch := omega) only [up_s, up_k, up_j, mm_neg, mm_def, ni_lt, ni_le, ni_eq, ni_mm, mm_ni, ni_lt_mm, ni_le_mm, mm_lt_ni, mm_le_ni, mm_lt_mm, mm_le_mm, ni_cl, ni_in, nI_add, ni_mul, ni_div, ni_rem, ni_rem2, fr_sub, fr_mm, fr_ge0, fr_lt0, fr_inj, l32_0, l32_1, l32_2, l32_3, l32_4, l32_5, l32_6, l32_7, l32_8, l32_9, l32_10, l32_11, l32_12, l32_13, l32_14, l32_15, l32_16, l32_20, l32_24, l32_25, l32_26, l32_31, l32_32, l32_34, l32_35, l32_39, l32_40, l32_44, l32_45, l32_46, l32_47, l32_48, l32_49, l32_57, l32_58, l32_59, l32_63, l32_64, l32_85, l32_90, l32_97, l32_99, l32_100, l32_110, l32_112, l32_122, l32_124, l32_125, l32_255, l32_680, l32_699, l32_700, l32_999, l32_2500, l32_99999, l32_100000, l32_1000000, if_true, if_false, ite_true, ite_false, ce_nm, Option.bind, if_pos, if_neg, un_n e1]
      exact b4 v hv
  · by_cases e : i = s
    · by_cases e2 : j = s
      · omega
      · rw [e, un_s, un_n e2] at hij
        exact absurd hij.symm (hq j (by omega))
    · by_cases e2 : j = s
      · rw [e2, un_s, un_n e] at hij
        exact absurd hij (hq i (by omega))
      · rw [un_n e, un_n e2] at hij
        exact b5 i j (by omega) (by omega) hij
  · by_cases e : v = w
    · subst e
      rw [un_s]
      exact ⟨fun _ => ⟨s, by omega, un_s _ _ _⟩, fun _ => by omega⟩
    · rw [un_n e]
      constructor
      · intro z
        obtain ⟨i, i1, i2⟩ := (b6 v hv).mp z
        exact ⟨i, by omega, by rw [un_n (by omega)]; exact i2⟩
      · rintro ⟨i, i1, i2⟩
        by_cases e2 : i = s
        · rw [e2, un_s] at i2; omega
        · rw [un_n e2] at i2
          exact (b6 v hv).mpr ⟨i, by omega, i2⟩
  · by_cases e : v = w
    · subst e
      rw [un_s, un_s]
      omega
    · rw [un_n e, un_n e]
      obtain ⟨z1, z2, z3⟩ := b7 v hv
      exact ⟨by omega, z2, z3⟩
theorem push_fw (h : Hp) (s w : Nat) (a b c d : Int32) : Fw h (hp_up (hp_up (hp_up (hp_up h 41 s a) 42 w b) 43 w c) 40 0 d) := by
  intro x x1 x2 x3 x4
  rw [up_kk _ _ _ _ _ x1, up_kk _ _ _ _ _ x4, up_kk _ _ _ _ _ x3, up_kk _ _ _ _ _ x2]
/-- ten different ones of ten are all -/
theorem ten_all {q : Nat → Nat} (h1 : ∀ i, i < 10 → q i < 10) (h2 : ∀ i j, i < 10 → j < 10 → q i = q j → i = j) {w : Nat} (hw : w < 10) : ∃ i, i < 10 ∧ q i = w := by
  apply Classical.byContradiction
  intro hn
  have a1 : ct (fun _ => true) 10 ≤ ct (fun i => true && !(i == w)) 10 := ct_inj q (fun i hi _ => ⟨h1 i hi, by
    have : (q i == w) = false := by
      simp
      intro z
      exact hn ⟨i, hi, z⟩
    simp [this]⟩) (fun i j hi hj _ _ => h2 i j hi hj)
  have a2 := ct_del (q := fun _ => true) (j := w) (n := 10) hw rfl
  omega
