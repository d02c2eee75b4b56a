-- tokens of the tape, in both
def kd (c : Nat) : Nat := if 97 ≤ c ∧ c ≤ 122 then 1 else if 48 ≤ c ∧ c ≤ 57 then 2 else if c = 59 then 3 else 4
theorem kd_le (c : Nat) : 1 ≤ kd c ∧ kd c ≤ 4 := by
  unfold kd
  by_cases a : 97 ≤ c ∧ c ≤ 122
  · rw [if_pos a]; omega
  · rw [if_neg a]
    by_cases b : 48 ≤ c ∧ c ≤ 57
    · rw [if_pos b]; omega
    · rw [if_neg b]
      by_cases d : c = 59
      · rw [if_pos d]; omega
      · rw [if_neg d]; omega
theorem kd_1 {c : Nat} : kd c = 1 ↔ (97 ≤ c ∧ c ≤ 122) := by
  unfold kd
  by_cases a : 97 ≤ c ∧ c ≤ 122
  · rw [if_pos a]; exact ⟨fun _ => a, fun _ => rfl⟩
  · rw [if_neg a]
    refine ⟨fun h => ?_, fun h => absurd h a⟩
    by_cases b : 48 ≤ c ∧ c ≤ 57
    · rw [if_pos b] at h; omega
    · rw [if_neg b] at h
      by_cases d : c = 59
      · rw [if_pos d] at h; omega
      · rw [if_neg d] at h; omega
theorem kd_2 {c : Nat} : kd c = 2 ↔ (48 ≤ c ∧ c ≤ 57) := by
  unfold kd
  by_cases a : 97 ≤ c ∧ c ≤ 122
  · rw [if_pos a]
    exact ⟨fun h => by omega, fun h => by omega⟩
  · rw [if_neg a]
    by_cases b : 48 ≤ c ∧ c ≤ 57
    · rw [if_pos b]; exact ⟨fun _ => b, fun _ => rfl⟩
    · rw [if_neg b]
      refine ⟨fun h => ?_, fun h => absurd h b⟩
      by_cases d : c = 59
      · rw [if_pos d] at h; omega
      · rw [if_neg d] at h; omega
theorem kd_3 {c : Nat} : kd c = 3 ↔ c = 59 := by
  unfold kd
  by_cases a : 97 ≤ c ∧ c ≤ 122
  · rw [if_pos a]
    exact ⟨fun h => by omega, fun h => by omega⟩
  · rw [if_neg a]
    by_cases b : 48 ≤ c ∧ c ≤ 57
    · rw [if_pos b]
      exact ⟨fun h => by omega, fun h => by omega⟩
    · rw [if_neg b]
      by_cases d : c = 59
      · rw [if_pos d]; exact ⟨fun _ => d, fun _ => rfl⟩
      · rw [if_neg d]; exact ⟨fun h => by omega, fun h => absurd h d⟩
/-- from p on as long as q holds -/
def RE (T : Nat) (q : Nat → Prop) (p e : Nat) : Prop := p ≤ e ∧ (∀ j, p ≤ j → j < e → j < T ∧ q j) ∧ ¬ (e < T ∧ q e)
theorem RE.uniq {T : Nat} {q : Nat → Prop} {p e e' : Nat} (a : RE T q p e) (b : RE T q p e') : e = e' := by
  obtain ⟨a1, a2, a3⟩ := a
  obtain ⟨b1, b2, b3⟩ := b
  have h1 : ¬ e < e' := fun z => a3 (b2 e a1 z)
  have h2 : ¬ e' < e := fun z => b3 (a2 e' b1 z)
  omega
theorem RE.le {T : Nat} {q : Nat → Prop} {p e : Nat} (a : RE T q p e) (hp : p ≤ T) : e ≤ T := by
  obtain ⟨a1, a2, a3⟩ := a
  apply Classical.byContradiction
  intro z
  have := (a2 (e - 1) (by omega) (by omega)).1
  omega
theorem RE.step {T : Nat} {q : Nat → Prop} {p e : Nat} (h1 : p < T) (h2 : q p) : RE T q p e ↔ RE T q (p + 1) e := by
  constructor
  · rintro ⟨a1, a2, a3⟩
    have : p ≠ e := fun z => a3 (by rw [← z]; exact ⟨h1, h2⟩)
    exact ⟨by omega, fun j j1 j2 => a2 j (by omega) j2, a3⟩
  · rintro ⟨a1, a2, a3⟩
    refine ⟨by omega, fun j j1 j2 => ?_, a3⟩
    by_cases z : j = p
    · rw [z]; exact ⟨h1, h2⟩
    · exact a2 j (by omega) j2
theorem RE.stop {T : Nat} {q : Nat → Prop} {p : Nat} (h : ¬ (p < T ∧ q p)) : RE T q p p := ⟨Nat.le_refl _, fun j j1 j2 => by omega, h⟩
def blk (t : Nat → Nat) : Nat → Prop := fun j => t j = 32 ∨ t j = 10
/-- a token: from, to, kind -/
def TK (t : Nat → Nat) (T p s e k : Nat) : Prop := RE T (blk t) p s ∧ ((T ≤ s ∧ e = s ∧ k = 0) ∨ (s < T ∧ k = kd (t s) ∧ ((k = 1 ∨ k = 2) → RE T (fun j => kd (t j) = k) s e) ∧ (¬ (k = 1 ∨ k = 2) → e = s + 1)))
theorem TK.uniq {t : Nat → Nat} {T p s e k s' e' k' : Nat} (a : TK t T p s e k) (b : TK t T p s' e' k') : s = s' ∧ e = e' ∧ k = k' := by
  obtain ⟨a1, a2⟩ := a
  obtain ⟨b1, b2⟩ := b
  have hs := a1.uniq b1
  subst hs
  refine ⟨rfl, ?_⟩
  rcases a2 with ⟨x1, x2, x3⟩ | ⟨x1, x2, x3, x4⟩
  · rcases b2 with ⟨y1, y2, y3⟩ | ⟨y1, y2, y3, y4⟩
    · exact ⟨by omega, by omega⟩
    · omega
  · rcases b2 with ⟨y1, y2, y3⟩ | ⟨y1, y2, y3, y4⟩
    · omega
    · have hk : k = k' := by omega
      subst hk
      refine ⟨?_, rfl⟩
      by_cases z : k = 1 ∨ k = 2
      · exact (x3 z).uniq (y3 z)
      · rw [x4 z, y4 z]
theorem TK.le {t : Nat → Nat} {T p s e k : Nat} (a : TK t T p s e k) (hp : p ≤ T) : p ≤ s ∧ s ≤ e ∧ e ≤ T ∧ k ≤ 4 ∧ (k ≠ 0 → s < e) := by
  obtain ⟨a1, a2⟩ := a
  have h1 := a1.le hp
  have h2 := a1.1
  rcases a2 with ⟨x1, x2, x3⟩ | ⟨x1, x2, x3, x4⟩
  · exact ⟨h2, by omega, by omega, by omega, fun q => absurd x3 q⟩
  · have kk := kd_le (t s)
    by_cases z : k = 1 ∨ k = 2
    · have r := x3 z
      have rl := r.le (by omega)
      have r1 := (RE.step x1 x2.symm).mp r
      have r2 := r1.1
      exact ⟨h2, by omega, rl, by omega, fun _ => by omega⟩
    · have := x4 z
      exact ⟨h2, by omega, by omega, by omega, fun _ => by omega⟩
/-- the class's token -/
def LC (h : Hp) (s e k : Nat) : Prop := h 1 2 = nI s ∧ h 1 3 = nI e ∧ h 1 1 = nI k
def TC (h : Hp) (T : Nat) (t : Nat → Nat) : Prop := T ≤ 700 ∧ h 2 1 = nI T ∧ ∀ i, i < T → t i < 256 ∧ h 3 i &&& 255 = nI (t i)
theorem TC.eqv {h h' : Hp} {T : Nat} {t : Nat → Nat} (c : TC h T t) (f2 : h' 2 = h 2) (f3 : h' 3 = h 3) : TC h' T t := by
  unfold TC
  rw [f2, f3]
  exact c
theorem x_byteAt {T F : Nat} {t : Nat → Nat} {h : Hp} (c : TC h T t) (p : Nat) (hp : p < 2147483648) : f7_byteAt F (nI p) h = some (if p < T then nI (t p) else mm, h) := by
  have hT := c.1
  refine Ev.eq ?_
  unfold f7_byteAt
  refine Ev.neg (by simp (disch := omega) only [up_s, up_k, up_j, mm_neg, mm_def, ni_lt, ni_le, ni_eq, ni_mm, mm_ni, ni_lt_mm, ni_le_mm, mm_lt_ni, mm_le_ni, mm_lt_mm, mm_le_mm, ni_cl, ni_in, nI_add, ni_mul, ni_div, ni_rem, ni_rem2, fr_sub, fr_mm, fr_ge0, fr_lt0, fr_inj, l32_0, l32_1, l32_2, l32_3, l32_4, l32_5, l32_6, l32_7, l32_8, l32_9, l32_10, l32_11, l32_12, l32_13, l32_14, l32_15, l32_16, l32_20, l32_24, l32_25, l32_26, l32_31, l32_32, l32_34, l32_35, l32_39, l32_40, l32_44, l32_45, l32_46, l32_47, l32_48, l32_49, l32_57, l32_58, l32_59, l32_63, l32_64, l32_85, l32_90, l32_97, l32_99, l32_100, l32_110, l32_112, l32_122, l32_124, l32_125, l32_255, l32_680, l32_699, l32_700, l32_999, l32_2500, l32_99999, l32_100000, l32_1000000, if_true, if_false, ite_true, ite_false, ce_nm, Option.bind, if_pos, if_neg]; omega) ?_
  by_cases z : p < T
  · refine Ev.pos (by rw [c.2.1]; simp (disch := omega) only [up_s, up_k, up_j, mm_neg, mm_def, ni_lt, ni_le, ni_eq, ni_mm, mm_ni, ni_lt_mm, ni_le_mm, mm_lt_ni, mm_le_ni, mm_lt_mm, mm_le_mm, ni_cl, ni_in, nI_add, ni_mul, ni_div, ni_rem, ni_rem2, fr_sub, fr_mm, fr_ge0, fr_lt0, fr_inj, l32_0, l32_1, l32_2, l32_3, l32_4, l32_5, l32_6, l32_7, l32_8, l32_9, l32_10, l32_11, l32_12, l32_13, l32_14, l32_15, l32_16, l32_20, l32_24, l32_25, l32_26, l32_31, l32_32, l32_34, l32_35, l32_39, l32_40, l32_44, l32_45, l32_46, l32_47, l32_48, l32_49, l32_57, l32_58, l32_59, l32_63, l32_64, l32_85, l32_90, l32_97, l32_99, l32_100, l32_110, l32_112, l32_122, l32_124, l32_125, l32_255, l32_680, l32_699, l32_700, l32_999, l32_2500, l32_99999, l32_100000, l32_1000000, if_true, if_false, ite_true, ite_false, ce_nm, Option.bind, if_pos, if_neg]; exact z) (Ev.grd (ni_in (by omega) (by omega)) (Ev.some ?_))
    rw [if_pos z, ni_cl (by omega), (c.2.2 p z).2]
  · refine Ev.neg (by rw [c.2.1]; simp (disch := omega) only [up_s, up_k, up_j, mm_neg, mm_def, ni_lt, ni_le, ni_eq, ni_mm, mm_ni, ni_lt_mm, ni_le_mm, mm_lt_ni, mm_le_ni, mm_lt_mm, mm_le_mm, ni_cl, ni_in, nI_add, ni_mul, ni_div, ni_rem, ni_rem2, fr_sub, fr_mm, fr_ge0, fr_lt0, fr_inj, l32_0, l32_1, l32_2, l32_3, l32_4, l32_5, l32_6, l32_7, l32_8, l32_9, l32_10, l32_11, l32_12, l32_13, l32_14, l32_15, l32_16, l32_20, l32_24, l32_25, l32_26, l32_31, l32_32, l32_34, l32_35, l32_39, l32_40, l32_44, l32_45, l32_46, l32_47, l32_48, l32_49, l32_57, l32_58, l32_59, l32_63, l32_64, l32_85, l32_90, l32_97, l32_99, l32_100, l32_110, l32_112, l32_122, l32_124, l32_125, l32_255, l32_680, l32_699, l32_700, l32_999, l32_2500, l32_99999, l32_100000, l32_1000000, if_true, if_false, ite_true, ite_false, ce_nm, Option.bind, if_pos, if_neg]; exact z) (Ev.some ?_)
    rw [if_neg z]
    rfl
theorem x_kindOf {c F : Nat} {h : Hp} (hc : c < 256) : f6_kindOf F (nI c) h = some (nI (kd c), h) := by
  refine Ev.eq ?_
  unfold f6_kindOf kd
  refine Ev.neg (by simp (disch := omega) only [up_s, up_k, up_j, mm_neg, mm_def, ni_lt, ni_le, ni_eq, ni_mm, mm_ni, ni_lt_mm, ni_le_mm, mm_lt_ni, mm_le_ni, mm_lt_mm, mm_le_mm, ni_cl, ni_in, nI_add, ni_mul, ni_div, ni_rem, ni_rem2, fr_sub, fr_mm, fr_ge0, fr_lt0, fr_inj, l32_0, l32_1, l32_2, l32_3, l32_4, l32_5, l32_6, l32_7, l32_8, l32_9, l32_10, l32_11, l32_12, l32_13, l32_14, l32_15, l32_16, l32_20, l32_24, l32_25, l32_26, l32_31, l32_32, l32_34, l32_35, l32_39, l32_40, l32_44, l32_45, l32_46, l32_47, l32_48, l32_49, l32_57, l32_58, l32_59, l32_63, l32_64, l32_85, l32_90, l32_97, l32_99, l32_100, l32_110, l32_112, l32_122, l32_124, l32_125, l32_255, l32_680, l32_699, l32_700, l32_999, l32_2500, l32_99999, l32_100000, l32_1000000, if_true, if_false, ite_true, ite_false, ce_nm, Option.bind, if_pos, if_neg]; exact id) ?_
  by_cases a : c < 97
  · refine Ev.pos (by simp (disch := omega) only [up_s, up_k, up_j, mm_neg, mm_def, ni_lt, ni_le, ni_eq, ni_mm, mm_ni, ni_lt_mm, ni_le_mm, mm_lt_ni, mm_le_ni, mm_lt_mm, mm_le_mm, ni_cl, ni_in, nI_add, ni_mul, ni_div, ni_rem, ni_rem2, fr_sub, fr_mm, fr_ge0, fr_lt0, fr_inj, l32_0, l32_1, l32_2, l32_3, l32_4, l32_5, l32_6, l32_7, l32_8, l32_9, l32_10, l32_11, l32_12, l32_13, l32_14, l32_15, l32_16, l32_20, l32_24, l32_25, l32_26, l32_31, l32_32, l32_34, l32_35, l32_39, l32_40, l32_44, l32_45, l32_46, l32_47, l32_48, l32_49, l32_57, l32_58, l32_59, l32_63, l32_64, l32_85, l32_90, l32_97, l32_99, l32_100, l32_110, l32_112, l32_122, l32_124, l32_125, l32_255, l32_680, l32_699, l32_700, l32_999, l32_2500, l32_99999, l32_100000, l32_1000000, if_true, if_false, ite_true, ite_false, ce_nm, Option.bind, if_pos, if_neg]; exact a) ?_
    rw [if_neg (by omega : ¬ (97 ≤ c ∧ c ≤ 122))]
    by_cases b : c < 48
    · refine Ev.pos (by simp (disch := omega) only [up_s, up_k, up_j, mm_neg, mm_def, ni_lt, ni_le, ni_eq, ni_mm, mm_ni, ni_lt_mm, ni_le_mm, mm_lt_ni, mm_le_ni, mm_lt_mm, mm_le_mm, ni_cl, ni_in, nI_add, ni_mul, ni_div, ni_rem, ni_rem2, fr_sub, fr_mm, fr_ge0, fr_lt0, fr_inj, l32_0, l32_1, l32_2, l32_3, l32_4, l32_5, l32_6, l32_7, l32_8, l32_9, l32_10, l32_11, l32_12, l32_13, l32_14, l32_15, l32_16, l32_20, l32_24, l32_25, l32_26, l32_31, l32_32, l32_34, l32_35, l32_39, l32_40, l32_44, l32_45, l32_46, l32_47, l32_48, l32_49, l32_57, l32_58, l32_59, l32_63, l32_64, l32_85, l32_90, l32_97, l32_99, l32_100, l32_110, l32_112, l32_122, l32_124, l32_125, l32_255, l32_680, l32_699, l32_700, l32_999, l32_2500, l32_99999, l32_100000, l32_1000000, if_true, if_false, ite_true, ite_false, ce_nm, Option.bind, if_pos, if_neg]; exact b) ?_
      rw [if_neg (by omega : ¬ (48 ≤ c ∧ c ≤ 57))]
      refine Ev.neg (by simp (disch := omega) only [up_s, up_k, up_j, mm_neg, mm_def, ni_lt, ni_le, ni_eq, ni_mm, mm_ni, ni_lt_mm, ni_le_mm, mm_lt_ni, mm_le_ni, mm_lt_mm, mm_le_mm, ni_cl, ni_in, nI_add, ni_mul, ni_div, ni_rem, ni_rem2, fr_sub, fr_mm, fr_ge0, fr_lt0, fr_inj, l32_0, l32_1, l32_2, l32_3, l32_4, l32_5, l32_6, l32_7, l32_8, l32_9, l32_10, l32_11, l32_12, l32_13, l32_14, l32_15, l32_16, l32_20, l32_24, l32_25, l32_26, l32_31, l32_32, l32_34, l32_35, l32_39, l32_40, l32_44, l32_45, l32_46, l32_47, l32_48, l32_49, l32_57, l32_58, l32_59, l32_63, l32_64, l32_85, l32_90, l32_97, l32_99, l32_100, l32_110, l32_112, l32_122, l32_124, l32_125, l32_255, l32_680, l32_699, l32_700, l32_999, l32_2500, l32_99999, l32_100000, l32_1000000, if_true, if_false, ite_true, ite_false, ce_nm, Option.bind, if_pos, if_neg]; omega) (Ev.some ?_)
      rw [if_neg (by omega)]
      rfl
    · refine Ev.neg (by simp (disch := omega) only [up_s, up_k, up_j, mm_neg, mm_def, ni_lt, ni_le, ni_eq, ni_mm, mm_ni, ni_lt_mm, ni_le_mm, mm_lt_ni, mm_le_ni, mm_lt_mm, mm_le_mm, ni_cl, ni_in, nI_add, ni_mul, ni_div, ni_rem, ni_rem2, fr_sub, fr_mm, fr_ge0, fr_lt0, fr_inj, l32_0, l32_1, l32_2, l32_3, l32_4, l32_5, l32_6, l32_7, l32_8, l32_9, l32_10, l32_11, l32_12, l32_13, l32_14, l32_15, l32_16, l32_20, l32_24, l32_25, l32_26, l32_31, l32_32, l32_34, l32_35, l32_39, l32_40, l32_44, l32_45, l32_46, l32_47, l32_48, l32_49, l32_57, l32_58, l32_59, l32_63, l32_64, l32_85, l32_90, l32_97, l32_99, l32_100, l32_110, l32_112, l32_122, l32_124, l32_125, l32_255, l32_680, l32_699, l32_700, l32_999, l32_2500, l32_99999, l32_100000, l32_1000000, if_true, if_false, ite_true, ite_false, ce_nm, Option.bind, if_pos, if_neg]; exact b) ?_
      by_cases d : 57 < c
      · refine Ev.pos (by simp (disch := omega) only [up_s, up_k, up_j, mm_neg, mm_def, ni_lt, ni_le, ni_eq, ni_mm, mm_ni, ni_lt_mm, ni_le_mm, mm_lt_ni, mm_le_ni, mm_lt_mm, mm_le_mm, ni_cl, ni_in, nI_add, ni_mul, ni_div, ni_rem, ni_rem2, fr_sub, fr_mm, fr_ge0, fr_lt0, fr_inj, l32_0, l32_1, l32_2, l32_3, l32_4, l32_5, l32_6, l32_7, l32_8, l32_9, l32_10, l32_11, l32_12, l32_13, l32_14, l32_15, l32_16, l32_20, l32_24, l32_25, l32_26, l32_31, l32_32, l32_34, l32_35, l32_39, l32_40, l32_44, l32_45, l32_46, l32_47, l32_48, l32_49, l32_57, l32_58, l32_59, l32_63, l32_64, l32_85, l32_90, l32_97, l32_99, l32_100, l32_110, l32_112, l32_122, l32_124, l32_125, l32_255, l32_680, l32_699, l32_700, l32_999, l32_2500, l32_99999, l32_100000, l32_1000000, if_true, if_false, ite_true, ite_false, ce_nm, Option.bind, if_pos, if_neg]; exact d) ?_
        rw [if_neg (by omega : ¬ (48 ≤ c ∧ c ≤ 57))]
        by_cases e : c = 59
        · refine Ev.pos (by rw [e]; rfl) (Ev.some ?_)
          rw [if_pos e]
          rfl
        · refine Ev.neg (by simp (disch := omega) only [up_s, up_k, up_j, mm_neg, mm_def, ni_lt, ni_le, ni_eq, ni_mm, mm_ni, ni_lt_mm, ni_le_mm, mm_lt_ni, mm_le_ni, mm_lt_mm, mm_le_mm, ni_cl, ni_in, nI_add, ni_mul, ni_div, ni_rem, ni_rem2, fr_sub, fr_mm, fr_ge0, fr_lt0, fr_inj, l32_0, l32_1, l32_2, l32_3, l32_4, l32_5, l32_6, l32_7, l32_8, l32_9, l32_10, l32_11, l32_12, l32_13, l32_14, l32_15, l32_16, l32_20, l32_24, l32_25, l32_26, l32_31, l32_32, l32_34, l32_35, l32_39, l32_40, l32_44, l32_45, l32_46, l32_47, l32_48, l32_49, l32_57, l32_58, l32_59, l32_63, l32_64, l32_85, l32_90, l32_97, l32_99, l32_100, l32_110, l32_112, l32_122, l32_124, l32_125, l32_255, l32_680, l32_699, l32_700, l32_999, l32_2500, l32_99999, l32_100000, l32_1000000, if_true, if_false, ite_true, ite_false, ce_nm, Option.bind, if_pos, if_neg]; exact e) (Ev.some ?_)
          rw [if_neg e]
          rfl
      · refine Ev.neg (by simp (disch := omega) only [up_s, up_k, up_j, mm_neg, mm_def, ni_lt, ni_le, ni_eq, ni_mm, mm_ni, ni_lt_mm, ni_le_mm, mm_lt_ni, mm_le_ni, mm_lt_mm, mm_le_mm, ni_cl, ni_in, nI_add, ni_mul, ni_div, ni_rem, ni_rem2, fr_sub, fr_mm, fr_ge0, fr_lt0, fr_inj, l32_0, l32_1, l32_2, l32_3, l32_4, l32_5, l32_6, l32_7, l32_8, l32_9, l32_10, l32_11, l32_12, l32_13, l32_14, l32_15, l32_16, l32_20, l32_24, l32_25, l32_26, l32_31, l32_32, l32_34, l32_35, l32_39, l32_40, l32_44, l32_45, l32_46, l32_47, l32_48, l32_49, l32_57, l32_58, l32_59, l32_63, l32_64, l32_85, l32_90, l32_97, l32_99, l32_100, l32_110, l32_112, l32_122, l32_124, l32_125, l32_255, l32_680, l32_699, l32_700, l32_999, l32_2500, l32_99999, l32_100000, l32_1000000, if_true, if_false, ite_true, ite_false, ce_nm, Option.bind, if_pos, if_neg]; exact d) (Ev.some ?_)
        rw [if_pos (by omega : 48 ≤ c ∧ c ≤ 57)]
        rfl
  · refine Ev.neg (by simp (disch := omega) only [up_s, up_k, up_j, mm_neg, mm_def, ni_lt, ni_le, ni_eq, ni_mm, mm_ni, ni_lt_mm, ni_le_mm, mm_lt_ni, mm_le_ni, mm_lt_mm, mm_le_mm, ni_cl, ni_in, nI_add, ni_mul, ni_div, ni_rem, ni_rem2, fr_sub, fr_mm, fr_ge0, fr_lt0, fr_inj, l32_0, l32_1, l32_2, l32_3, l32_4, l32_5, l32_6, l32_7, l32_8, l32_9, l32_10, l32_11, l32_12, l32_13, l32_14, l32_15, l32_16, l32_20, l32_24, l32_25, l32_26, l32_31, l32_32, l32_34, l32_35, l32_39, l32_40, l32_44, l32_45, l32_46, l32_47, l32_48, l32_49, l32_57, l32_58, l32_59, l32_63, l32_64, l32_85, l32_90, l32_97, l32_99, l32_100, l32_110, l32_112, l32_122, l32_124, l32_125, l32_255, l32_680, l32_699, l32_700, l32_999, l32_2500, l32_99999, l32_100000, l32_1000000, if_true, if_false, ite_true, ite_false, ce_nm, Option.bind, if_pos, if_neg]; exact a) ?_
    by_cases b : 122 < c
    · refine Ev.pos (by simp (disch := omega) only [up_s, up_k, up_j, mm_neg, mm_def, ni_lt, ni_le, ni_eq, ni_mm, mm_ni, ni_lt_mm, ni_le_mm, mm_lt_ni, mm_le_ni, mm_lt_mm, mm_le_mm, ni_cl, ni_in, nI_add, ni_mul, ni_div, ni_rem, ni_rem2, fr_sub, fr_mm, fr_ge0, fr_lt0, fr_inj, l32_0, l32_1, l32_2, l32_3, l32_4, l32_5, l32_6, l32_7, l32_8, l32_9, l32_10, l32_11, l32_12, l32_13, l32_14, l32_15, l32_16, l32_20, l32_24, l32_25, l32_26, l32_31, l32_32, l32_34, l32_35, l32_39, l32_40, l32_44, l32_45, l32_46, l32_47, l32_48, l32_49, l32_57, l32_58, l32_59, l32_63, l32_64, l32_85, l32_90, l32_97, l32_99, l32_100, l32_110, l32_112, l32_122, l32_124, l32_125, l32_255, l32_680, l32_699, l32_700, l32_999, l32_2500, l32_99999, l32_100000, l32_1000000, if_true, if_false, ite_true, ite_false, ce_nm, Option.bind, if_pos, if_neg]; exact b) (Ev.neg (by simp (disch := omega) only [up_s, up_k, up_j, mm_neg, mm_def, ni_lt, ni_le, ni_eq, ni_mm, mm_ni, ni_lt_mm, ni_le_mm, mm_lt_ni, mm_le_ni, mm_lt_mm, mm_le_mm, ni_cl, ni_in, nI_add, ni_mul, ni_div, ni_rem, ni_rem2, fr_sub, fr_mm, fr_ge0, fr_lt0, fr_inj, l32_0, l32_1, l32_2, l32_3, l32_4, l32_5, l32_6, l32_7, l32_8, l32_9, l32_10, l32_11, l32_12, l32_13, l32_14, l32_15, l32_16, l32_20, l32_24, l32_25, l32_26, l32_31, l32_32, l32_34, l32_35, l32_39, l32_40, l32_44, l32_45, l32_46, l32_47, l32_48, l32_49, l32_57, l32_58, l32_59, l32_63, l32_64, l32_85, l32_90, l32_97, l32_99, l32_100, l32_110, l32_112, l32_122, l32_124, l32_125, l32_255, l32_680, l32_699, l32_700, l32_999, l32_2500, l32_99999, l32_100000, l32_1000000, if_true, if_false, ite_true, ite_false, ce_nm, Option.bind, if_pos, if_neg]; omega) (Ev.pos (by simp (disch := omega) only [up_s, up_k, up_j, mm_neg, mm_def, ni_lt, ni_le, ni_eq, ni_mm, mm_ni, ni_lt_mm, ni_le_mm, mm_lt_ni, mm_le_ni, mm_lt_mm, mm_le_mm, ni_cl, ni_in, nI_add, ni_mul, ni_div, ni_rem, ni_rem2, fr_sub, fr_mm, fr_ge0, fr_lt0, fr_inj, l32_0, l32_1, l32_2, l32_3, l32_4, l32_5, l32_6, l32_7, l32_8, l32_9, l32_10, l32_11, l32_12, l32_13, l32_14, l32_15, l32_16, l32_20, l32_24, l32_25, l32_26, l32_31, l32_32, l32_34, l32_35, l32_39, l32_40, l32_44, l32_45, l32_46, l32_47, l32_48, l32_49, l32_57, l32_58, l32_59, l32_63, l32_64, l32_85, l32_90, l32_97, l32_99, l32_100, l32_110, l32_112, l32_122, l32_124, l32_125, l32_255, l32_680, l32_699, l32_700, l32_999, l32_2500, l32_99999, l32_100000, l32_1000000, if_true, if_false, ite_true, ite_false, ce_nm, Option.bind, if_pos, if_neg]; omega) (Ev.neg (by simp (disch := omega) only [up_s, up_k, up_j, mm_neg, mm_def, ni_lt, ni_le, ni_eq, ni_mm, mm_ni, ni_lt_mm, ni_le_mm, mm_lt_ni, mm_le_ni, mm_lt_mm, mm_le_mm, ni_cl, ni_in, nI_add, ni_mul, ni_div, ni_rem, ni_rem2, fr_sub, fr_mm, fr_ge0, fr_lt0, fr_inj, l32_0, l32_1, l32_2, l32_3, l32_4, l32_5, l32_6, l32_7, l32_8, l32_9, l32_10, l32_11, l32_12, l32_13, l32_14, l32_15, l32_16, l32_20, l32_24, l32_25, l32_26, l32_31, l32_32, l32_34, l32_35, l32_39, l32_40, l32_44, l32_45, l32_46, l32_47, l32_48, l32_49, l32_57, l32_58, l32_59, l32_63, l32_64, l32_85, l32_90, l32_97, l32_99, l32_100, l32_110, l32_112, l32_122, l32_124, l32_125, l32_255, l32_680, l32_699, l32_700, l32_999, l32_2500, l32_99999, l32_100000, l32_1000000, if_true, if_false, ite_true, ite_false, ce_nm, Option.bind, if_pos, if_neg]; omega) (Ev.some ?_))))
      rw [if_neg (by omega), if_neg (by omega), if_neg (by omega)]
      rfl
    · refine Ev.neg (by simp (disch := omega) only [up_s, up_k, up_j, mm_neg, mm_def, ni_lt, ni_le, ni_eq, ni_mm, mm_ni, ni_lt_mm, ni_le_mm, mm_lt_ni, mm_le_ni, mm_lt_mm, mm_le_mm, ni_cl, ni_in, nI_add, ni_mul, ni_div, ni_rem, ni_rem2, fr_sub, fr_mm, fr_ge0, fr_lt0, fr_inj, l32_0, l32_1, l32_2, l32_3, l32_4, l32_5, l32_6, l32_7, l32_8, l32_9, l32_10, l32_11, l32_12, l32_13, l32_14, l32_15, l32_16, l32_20, l32_24, l32_25, l32_26, l32_31, l32_32, l32_34, l32_35, l32_39, l32_40, l32_44, l32_45, l32_46, l32_47, l32_48, l32_49, l32_57, l32_58, l32_59, l32_63, l32_64, l32_85, l32_90, l32_97, l32_99, l32_100, l32_110, l32_112, l32_122, l32_124, l32_125, l32_255, l32_680, l32_699, l32_700, l32_999, l32_2500, l32_99999, l32_100000, l32_1000000, if_true, if_false, ite_true, ite_false, ce_nm, Option.bind, if_pos, if_neg]; exact b) (Ev.some ?_)
      rw [if_pos (by omega)]
      rfl
/-- cell 1 alone, its slots 1 to 3 -/
def FrL (h h' : Hp) : Prop := (∀ c, c ≠ 1 → h' c = h c) ∧ ∀ j, (j = 0 ∨ 3 < j) → h' 1 j = h 1 j
theorem FrL.trans {h1 h2 h3 : Hp} (a : FrL h1 h2) (b : FrL h2 h3) : FrL h1 h3 := ⟨fun c hc => (b.1 c hc).trans (a.1 c hc), fun j hj => (b.2 j hj).trans (a.2 j hj)⟩
theorem FrL.up {h : Hp} {j : Nat} {v : Int32} (hj : 1 ≤ j ∧ j ≤ 3) : FrL h (hp_up h 1 j v) := ⟨fun c hc => up_kk _ _ _ _ _ hc, fun i hi => up_j _ _ _ _ _ (by omega)⟩
theorem FrL.tc {h h' : Hp} {T : Nat} {t : Nat → Nat} (f : FrL h h') (c : TC h T t) : TC h' T t := c.eqv (f.1 2 (by omega)) (f.1 3 (by omega))
theorem x_advance {T p F : Nat} {t : Nat → Nat} {h : Hp} (c : TC h T t) (hp : h 1 3 = nI p) (hpT : p ≤ T) (hF : 1000 ≤ F) : Ev (f6_advance F h) (fun h' => FrL h h' ∧ ∃ s e k, TK t T p s e k ∧ LC h' s e k) := by
  have hT := c.1
  unfold f6_advance
  refine Ev.nm ?_
  rw [hp]
  obtain ⟨h0, eh0⟩ : ∃ h0, h0 = hp_up h 1 2 (nI p) := ⟨_, rfl⟩
  rw [← eh0]
  have f0 : FrL h h0 := by rw [eh0]; exact FrL.up (by omega)
  have s0 : h0 1 2 = nI p := by rw [eh0, up_s]
  refine Ev.bind (P := fun h1 => FrL h h1 ∧ ∃ s, RE T (blk t) p s ∧ h1 1 2 = nI s) ?_ (fun h1 hh1 => ?_)
  · refine Ev.it (I := fun i st => FrL h st ∧ p + i ≤ T ∧ st 1 2 = nI (p + i) ∧ ∀ s, RE T (blk t) p s ↔ RE T (blk t) (p + i) s) _ 700 ?_ F 0 _ (by omega) (by omega) ⟨f0, by omega, s0, fun s => Iff.rfl⟩
    rintro i h1 hi ⟨f1, hpi, s1, eqv⟩
    show Ev (f6_advance_b8 F h1) _
    have c1 := f1.tc c
    unfold f6_advance_b8
    by_cases z : T ≤ p + i
    · refine Ev.pos (by rw [c1.2.1, s1]; simp (disch := omega) only [up_s, up_k, up_j, mm_neg, mm_def, ni_lt, ni_le, ni_eq, ni_mm, mm_ni, ni_lt_mm, ni_le_mm, mm_lt_ni, mm_le_ni, mm_lt_mm, mm_le_mm, ni_cl, ni_in, nI_add, ni_mul, ni_div, ni_rem, ni_rem2, fr_sub, fr_mm, fr_ge0, fr_lt0, fr_inj, l32_0, l32_1, l32_2, l32_3, l32_4, l32_5, l32_6, l32_7, l32_8, l32_9, l32_10, l32_11, l32_12, l32_13, l32_14, l32_15, l32_16, l32_20, l32_24, l32_25, l32_26, l32_31, l32_32, l32_34, l32_35, l32_39, l32_40, l32_44, l32_45, l32_46, l32_47, l32_48, l32_49, l32_57, l32_58, l32_59, l32_63, l32_64, l32_85, l32_90, l32_97, l32_99, l32_100, l32_110, l32_112, l32_122, l32_124, l32_125, l32_255, l32_680, l32_699, l32_700, l32_999, l32_2500, l32_99999, l32_100000, l32_1000000, if_true, if_false, ite_true, ite_false, ce_nm, Option.bind, if_pos, if_neg]; exact z) (Ev.some ⟨f1, p + i, (eqv _).mpr (RE.stop (by omega)), s1⟩)
    · refine Ev.neg (by rw [c1.2.1, s1]; simp (disch := omega) only [up_s, up_k, up_j, mm_neg, mm_def, ni_lt, ni_le, ni_eq, ni_mm, mm_ni, ni_lt_mm, ni_le_mm, mm_lt_ni, mm_le_ni, mm_lt_mm, mm_le_mm, ni_cl, ni_in, nI_add, ni_mul, ni_div, ni_rem, ni_rem2, fr_sub, fr_mm, fr_ge0, fr_lt0, fr_inj, l32_0, l32_1, l32_2, l32_3, l32_4, l32_5, l32_6, l32_7, l32_8, l32_9, l32_10, l32_11, l32_12, l32_13, l32_14, l32_15, l32_16, l32_20, l32_24, l32_25, l32_26, l32_31, l32_32, l32_34, l32_35, l32_39, l32_40, l32_44, l32_45, l32_46, l32_47, l32_48, l32_49, l32_57, l32_58, l32_59, l32_63, l32_64, l32_85, l32_90, l32_97, l32_99, l32_100, l32_110, l32_112, l32_122, l32_124, l32_125, l32_255, l32_680, l32_699, l32_700, l32_999, l32_2500, l32_99999, l32_100000, l32_1000000, if_true, if_false, ite_true, ite_false, ce_nm, Option.bind, if_pos, if_neg]; exact z) ?_
      have tb := (c.2.2 (p + i) (by omega)).1
      rw [s1, x_byteAt c1 _ (by omega), if_pos (by omega)]
      refine ev_bs ?_
      dsimp only
      by_cases b1 : t (p + i) = 32 ∨ t (p + i) = 10
      · have ib : f6_isBlank F (nI (t (p + i))) h1 = some (nI 1, h1) := by
          refine Ev.eq ?_
          unfold f6_isBlank
          by_cases b2 : t (p + i) = 32
          · exact Ev.pos (by rw [b2]; rfl) (Ev.some rfl)
          · exact Ev.neg (by simp (disch := omega) only [up_s, up_k, up_j, mm_neg, mm_def, ni_lt, ni_le, ni_eq, ni_mm, mm_ni, ni_lt_mm, ni_le_mm, mm_lt_ni, mm_le_ni, mm_lt_mm, mm_le_mm, ni_cl, ni_in, nI_add, ni_mul, ni_div, ni_rem, ni_rem2, fr_sub, fr_mm, fr_ge0, fr_lt0, fr_inj, l32_0, l32_1, l32_2, l32_3, l32_4, l32_5, l32_6, l32_7, l32_8, l32_9, l32_10, l32_11, l32_12, l32_13, l32_14, l32_15, l32_16, l32_20, l32_24, l32_25, l32_26, l32_31, l32_32, l32_34, l32_35, l32_39, l32_40, l32_44, l32_45, l32_46, l32_47, l32_48, l32_49, l32_57, l32_58, l32_59, l32_63, l32_64, l32_85, l32_90, l32_97, l32_99, l32_100, l32_110, l32_112, l32_122, l32_124, l32_125, l32_255, l32_680, l32_699, l32_700, l32_999, l32_2500, l32_99999, l32_100000, l32_1000000, if_true, if_false, ite_true, ite_false, ce_nm, Option.bind, if_pos, if_neg]; exact b2) (Ev.pos (by rw [show t (p + i) = 10 by omega]; rfl) (Ev.some rfl))
        rw [ib]
        refine ev_bs (Ev.neg (by decide : ¬ (nI 1 : Int32) = 0) (Ev.nm (Ev.some ⟨by omega, f1.trans (FrL.up (by omega)), by omega, ?_, fun s => ?_⟩)))
        · dsimp only; rw [up_s, s1]; exact nI_1 _
        · rw [eqv s]; exact RE.step (by omega) b1
      · have ib : f6_isBlank F (nI (t (p + i))) h1 = some (nI 0, h1) := by
          refine Ev.eq ?_
          unfold f6_isBlank
          exact Ev.neg (by simp (disch := omega) only [up_s, up_k, up_j, mm_neg, mm_def, ni_lt, ni_le, ni_eq, ni_mm, mm_ni, ni_lt_mm, ni_le_mm, mm_lt_ni, mm_le_ni, mm_lt_mm, mm_le_mm, ni_cl, ni_in, nI_add, ni_mul, ni_div, ni_rem, ni_rem2, fr_sub, fr_mm, fr_ge0, fr_lt0, fr_inj, l32_0, l32_1, l32_2, l32_3, l32_4, l32_5, l32_6, l32_7, l32_8, l32_9, l32_10, l32_11, l32_12, l32_13, l32_14, l32_15, l32_16, l32_20, l32_24, l32_25, l32_26, l32_31, l32_32, l32_34, l32_35, l32_39, l32_40, l32_44, l32_45, l32_46, l32_47, l32_48, l32_49, l32_57, l32_58, l32_59, l32_63, l32_64, l32_85, l32_90, l32_97, l32_99, l32_100, l32_110, l32_112, l32_122, l32_124, l32_125, l32_255, l32_680, l32_699, l32_700, l32_999, l32_2500, l32_99999, l32_100000, l32_1000000, if_true, if_false, ite_true, ite_false, ce_nm, Option.bind, if_pos, if_neg]; omega) (Ev.neg (by simp (disch := omega) only [up_s, up_k, up_j, mm_neg, mm_def, ni_lt, ni_le, ni_eq, ni_mm, mm_ni, ni_lt_mm, ni_le_mm, mm_lt_ni, mm_le_ni, mm_lt_mm, mm_le_mm, ni_cl, ni_in, nI_add, ni_mul, ni_div, ni_rem, ni_rem2, fr_sub, fr_mm, fr_ge0, fr_lt0, fr_inj, l32_0, l32_1, l32_2, l32_3, l32_4, l32_5, l32_6, l32_7, l32_8, l32_9, l32_10, l32_11, l32_12, l32_13, l32_14, l32_15, l32_16, l32_20, l32_24, l32_25, l32_26, l32_31, l32_32, l32_34, l32_35, l32_39, l32_40, l32_44, l32_45, l32_46, l32_47, l32_48, l32_49, l32_57, l32_58, l32_59, l32_63, l32_64, l32_85, l32_90, l32_97, l32_99, l32_100, l32_110, l32_112, l32_122, l32_124, l32_125, l32_255, l32_680, l32_699, l32_700, l32_999, l32_2500, l32_99999, l32_100000, l32_1000000, if_true, if_false, ite_true, ite_false, ce_nm, Option.bind, if_pos, if_neg]; omega) (Ev.some rfl))
        rw [ib]
        exact ev_bs (Ev.pos rfl (Ev.some ⟨f1, p + i, (eqv _).mpr (RE.stop (fun q => b1 q.2)), s1⟩))
  · obtain ⟨f1, s, rs, s1⟩ := hh1
    have c1 := f1.tc c
    have sT := rs.le hpT
    rw [s1, x_byteAt c1 _ (by omega)]
    refine ev_bs ?_
    dsimp only
    by_cases z : s < T
    · have tb := (c.2.2 s z).1
      have kk := kd_le (t s)
      rw [if_pos z, x_kindOf tb]
      refine ev_bs (Ev.nm ?_)
      dsimp only
      refine Ev.neg (by simp (disch := omega) only [up_s, up_k, up_j, mm_neg, mm_def, ni_lt, ni_le, ni_eq, ni_mm, mm_ni, ni_lt_mm, ni_le_mm, mm_lt_ni, mm_le_ni, mm_lt_mm, mm_le_mm, ni_cl, ni_in, nI_add, ni_mul, ni_div, ni_rem, ni_rem2, fr_sub, fr_mm, fr_ge0, fr_lt0, fr_inj, l32_0, l32_1, l32_2, l32_3, l32_4, l32_5, l32_6, l32_7, l32_8, l32_9, l32_10, l32_11, l32_12, l32_13, l32_14, l32_15, l32_16, l32_20, l32_24, l32_25, l32_26, l32_31, l32_32, l32_34, l32_35, l32_39, l32_40, l32_44, l32_45, l32_46, l32_47, l32_48, l32_49, l32_57, l32_58, l32_59, l32_63, l32_64, l32_85, l32_90, l32_97, l32_99, l32_100, l32_110, l32_112, l32_122, l32_124, l32_125, l32_255, l32_680, l32_699, l32_700, l32_999, l32_2500, l32_99999, l32_100000, l32_1000000, if_true, if_false, ite_true, ite_false, ce_nm, Option.bind, if_pos, if_neg]; exact id) (Ev.nm ?_)
      have r12 : hp_up h1 1 1 (nI (kd (t s))) 1 2 = nI s := by rw [up_j _ _ _ _ _ (by omega)]; exact s1
      rw [r12, show nI s + 1 = nI (s + 1) from nI_1 _]
      obtain ⟨h2, eh2⟩ : ∃ h2, h2 = hp_up (hp_up h1 1 1 (nI (kd (t s)))) 1 3 (nI (s + 1)) := ⟨_, rfl⟩
      rw [← eh2]
      have f2 : FrL h h2 := by rw [eh2]; exact (f1.trans (FrL.up (by omega))).trans (FrL.up (by omega))
      have g1 : h2 1 1 = nI (kd (t s)) := by rw [eh2, up_j _ _ _ _ _ (by omega), up_s]
      have g2 : h2 1 2 = nI s := by rw [eh2, up_j _ _ _ _ _ (by omega), up_j _ _ _ _ _ (by omega)]; exact s1
      have g3 : h2 1 3 = nI (s + 1) := by rw [eh2, up_s]
      have run : (kd (t s) = 1 ∨ kd (t s) = 2) → Ev (Option.bind (ce_it (fun (st : Hp) => f6_advance_b110 F st) F h2) (fun o110 => some o110)) (fun h' => FrL h h' ∧ ∃ s e k, TK t T p s e k ∧ LC h' s e k) := fun hk => by
        refine Ev.bind (P := fun h' => FrL h h' ∧ ∃ s e k, TK t T p s e k ∧ LC h' s e k) ?_ (fun r hr => Ev.some hr)
        refine Ev.it (I := fun i st => FrL h st ∧ s + 1 + i ≤ T ∧ st 1 1 = nI (kd (t s)) ∧ st 1 2 = nI s ∧ st 1 3 = nI (s + 1 + i) ∧ ∀ e, RE T (fun j => kd (t j) = kd (t s)) s e ↔ RE T (fun j => kd (t j) = kd (t s)) (s + 1 + i) e) _ 700 ?_ F 0 _ (by omega) (by omega) ⟨f2, by omega, g1, g2, g3, fun e => RE.step z rfl⟩
        rintro i h3 hi ⟨f3, le3, q1, q2, q3, eqv⟩
        show Ev (f6_advance_b110 F h3) _
        have c3 := f3.tc c
        have fin : ¬ (s + 1 + i < T ∧ kd (t (s + 1 + i)) = kd (t s)) → FrL h h3 ∧ ∃ s e k, TK t T p s e k ∧ LC h3 s e k := fun q => ⟨f3, s, s + 1 + i, kd (t s), ⟨rs, Or.inr ⟨z, rfl, fun _ => (eqv _).mpr (RE.stop q), fun w => absurd hk w⟩⟩, q2, q3, q1⟩
        unfold f6_advance_b110
        by_cases y : T ≤ s + 1 + i
        · exact Ev.pos (by rw [c3.2.1, q3]; simp (disch := omega) only [up_s, up_k, up_j, mm_neg, mm_def, ni_lt, ni_le, ni_eq, ni_mm, mm_ni, ni_lt_mm, ni_le_mm, mm_lt_ni, mm_le_ni, mm_lt_mm, mm_le_mm, ni_cl, ni_in, nI_add, ni_mul, ni_div, ni_rem, ni_rem2, fr_sub, fr_mm, fr_ge0, fr_lt0, fr_inj, l32_0, l32_1, l32_2, l32_3, l32_4, l32_5, l32_6, l32_7, l32_8, l32_9, l32_10, l32_11, l32_12, l32_13, l32_14, l32_15, l32_16, l32_20, l32_24, l32_25, l32_26, l32_31, l32_32, l32_34, l32_35, l32_39, l32_40, l32_44, l32_45, l32_46, l32_47, l32_48, l32_49, l32_57, l32_58, l32_59, l32_63, l32_64, l32_85, l32_90, l32_97, l32_99, l32_100, l32_110, l32_112, l32_122, l32_124, l32_125, l32_255, l32_680, l32_699, l32_700, l32_999, l32_2500, l32_99999, l32_100000, l32_1000000, if_true, if_false, ite_true, ite_false, ce_nm, Option.bind, if_pos, if_neg]; exact y) (Ev.some (fin (by omega)))
        · have tb3 := (c.2.2 (s + 1 + i) (by omega)).1
          have kk3 := kd_le (t (s + 1 + i))
          refine Ev.neg (by rw [c3.2.1, q3]; simp (disch := omega) only [up_s, up_k, up_j, mm_neg, mm_def, ni_lt, ni_le, ni_eq, ni_mm, mm_ni, ni_lt_mm, ni_le_mm, mm_lt_ni, mm_le_ni, mm_lt_mm, mm_le_mm, ni_cl, ni_in, nI_add, ni_mul, ni_div, ni_rem, ni_rem2, fr_sub, fr_mm, fr_ge0, fr_lt0, fr_inj, l32_0, l32_1, l32_2, l32_3, l32_4, l32_5, l32_6, l32_7, l32_8, l32_9, l32_10, l32_11, l32_12, l32_13, l32_14, l32_15, l32_16, l32_20, l32_24, l32_25, l32_26, l32_31, l32_32, l32_34, l32_35, l32_39, l32_40, l32_44, l32_45, l32_46, l32_47, l32_48, l32_49, l32_57, l32_58, l32_59, l32_63, l32_64, l32_85, l32_90, l32_97, l32_99, l32_100, l32_110, l32_112, l32_122, l32_124, l32_125, l32_255, l32_680, l32_699, l32_700, l32_999, l32_2500, l32_99999, l32_100000, l32_1000000, if_true, if_false, ite_true, ite_false, ce_nm, Option.bind, if_pos, if_neg]; exact y) ?_
          rw [q3, x_byteAt c3 _ (by omega), if_pos (by omega)]
          refine ev_bs ?_
          dsimp only
          rw [x_kindOf tb3]
          refine ev_bs ?_
          dsimp only
          by_cases w : kd (t (s + 1 + i)) = kd (t s)
          · refine Ev.pos (by rw [q1, w]) (Ev.nm (Ev.some ⟨by omega, f3.trans (FrL.up (by omega)), by omega, ?_, ?_, ?_, fun e => ?_⟩))
            · rw [up_j _ _ _ _ _ (by omega)]; exact q1
            · rw [up_j _ _ _ _ _ (by omega)]; exact q2
            · rw [up_s, q3]; exact nI_1 _
            · rw [eqv e]; exact RE.step (by omega) w
          · exact Ev.neg (by rw [q1, ni_eq (by omega) (by omega)]; exact w) (Ev.some (fin (fun q => w q.2)))
      by_cases k1 : kd (t s) = 1
      · exact Ev.pos (by rw [g1, k1]; rfl) (run (Or.inl k1))
      · refine Ev.neg (by rw [g1]; simp (disch := omega) only [up_s, up_k, up_j, mm_neg, mm_def, ni_lt, ni_le, ni_eq, ni_mm, mm_ni, ni_lt_mm, ni_le_mm, mm_lt_ni, mm_le_ni, mm_lt_mm, mm_le_mm, ni_cl, ni_in, nI_add, ni_mul, ni_div, ni_rem, ni_rem2, fr_sub, fr_mm, fr_ge0, fr_lt0, fr_inj, l32_0, l32_1, l32_2, l32_3, l32_4, l32_5, l32_6, l32_7, l32_8, l32_9, l32_10, l32_11, l32_12, l32_13, l32_14, l32_15, l32_16, l32_20, l32_24, l32_25, l32_26, l32_31, l32_32, l32_34, l32_35, l32_39, l32_40, l32_44, l32_45, l32_46, l32_47, l32_48, l32_49, l32_57, l32_58, l32_59, l32_63, l32_64, l32_85, l32_90, l32_97, l32_99, l32_100, l32_110, l32_112, l32_122, l32_124, l32_125, l32_255, l32_680, l32_699, l32_700, l32_999, l32_2500, l32_99999, l32_100000, l32_1000000, if_true, if_false, ite_true, ite_false, ce_nm, Option.bind, if_pos, if_neg]; exact k1) ?_
        by_cases k2 : kd (t s) = 2
        · exact Ev.pos (by rw [g1, k2]; rfl) (run (Or.inr k2))
        · exact Ev.neg (by rw [g1]; simp (disch := omega) only [up_s, up_k, up_j, mm_neg, mm_def, ni_lt, ni_le, ni_eq, ni_mm, mm_ni, ni_lt_mm, ni_le_mm, mm_lt_ni, mm_le_ni, mm_lt_mm, mm_le_mm, ni_cl, ni_in, nI_add, ni_mul, ni_div, ni_rem, ni_rem2, fr_sub, fr_mm, fr_ge0, fr_lt0, fr_inj, l32_0, l32_1, l32_2, l32_3, l32_4, l32_5, l32_6, l32_7, l32_8, l32_9, l32_10, l32_11, l32_12, l32_13, l32_14, l32_15, l32_16, l32_20, l32_24, l32_25, l32_26, l32_31, l32_32, l32_34, l32_35, l32_39, l32_40, l32_44, l32_45, l32_46, l32_47, l32_48, l32_49, l32_57, l32_58, l32_59, l32_63, l32_64, l32_85, l32_90, l32_97, l32_99, l32_100, l32_110, l32_112, l32_122, l32_124, l32_125, l32_255, l32_680, l32_699, l32_700, l32_999, l32_2500, l32_99999, l32_100000, l32_1000000, if_true, if_false, ite_true, ite_false, ce_nm, Option.bind, if_pos, if_neg]; exact k2) (Ev.some ⟨f2, s, s + 1, kd (t s), ⟨rs, Or.inr ⟨z, rfl, fun w => by omega, fun _ => rfl⟩⟩, g2, g3, g1⟩)
    · have k0 : f6_kindOf F mm h1 = some (nI 0, h1) := by
        refine Ev.eq ?_
        unfold f6_kindOf
        exact Ev.pos rfl (Ev.some rfl)
      rw [if_neg z, k0]
      refine ev_bs (Ev.nm ?_)
      dsimp only
      refine Ev.pos rfl (Ev.nm ?_)
      have r12 : hp_up h1 1 1 (nI 0) 1 2 = nI s := by rw [up_j _ _ _ _ _ (by omega)]; exact s1
      rw [r12]
      have g1 : hp_up (hp_up h1 1 1 (nI 0)) 1 3 (nI s) 1 1 = nI 0 := by rw [up_j _ _ _ _ _ (by omega), up_s]
      refine Ev.neg (by rw [g1]; decide) (Ev.neg (by rw [g1]; decide) (Ev.some ⟨(f1.trans (FrL.up (by omega))).trans (FrL.up (by omega)), s, s, 0, ⟨rs, Or.inl ⟨by omega, rfl, rfl⟩⟩, ?_, ?_, g1⟩))
      · rw [up_j _ _ _ _ _ (by omega)]; exact r12
      · rw [up_s]
