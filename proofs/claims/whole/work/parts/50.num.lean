-- numbers, heaps and evaluation for the pure part
def mm : Int32 := -1
def fr (x : Nat) : Int32 := if x = 0 then mm else nI (x - 1)
theorem mm_def : (-1 : Int32) = mm := rfl
theorem mm_neg : -(nI 1) = mm := by decide
theorem mm_toInt : mm.toInt = -1 := by decide
theorem nI_toI {a : Nat} (h : a < 2147483648) : (nI a).toInt = (a : Int) := nI_toInt h
theorem ni_mm {a : Nat} (h : a < 2147483648) : (nI a = mm) = False := by
  apply eq_false
  intro q
  have := congrArg Int32.toInt q
  rw [nI_toI h, mm_toInt] at this
  omega
theorem mm_ni {a : Nat} (h : a < 2147483648) : (mm = nI a) = False := by
  rw [← ni_mm h]
  exact propext ⟨Eq.symm, Eq.symm⟩
theorem ni_lt_mm {a : Nat} (h : a < 2147483648) : (nI a < mm) = False := by
  apply eq_false
  intro q
  have := Int32.lt_iff_toInt_lt.mp q
  rw [nI_toI h, mm_toInt] at this
  omega
theorem ni_le_mm {a : Nat} (h : a < 2147483648) : (nI a ≤ mm) = False := by
  apply eq_false
  intro q
  have := Int32.le_iff_toInt_le.mp q
  rw [nI_toI h, mm_toInt] at this
  omega
theorem mm_lt_ni {a : Nat} (h : a < 2147483648) : (mm < nI a) = True := by
  apply eq_true
  apply Int32.lt_iff_toInt_lt.mpr
  rw [nI_toI h, mm_toInt]
  omega
theorem mm_le_ni {a : Nat} (h : a < 2147483648) : (mm ≤ nI a) = True := by
  apply eq_true
  apply Int32.le_iff_toInt_le.mpr
  rw [nI_toI h, mm_toInt]
  omega
theorem mm_lt_mm : (mm < mm) = False := by decide
theorem mm_le_mm : (mm ≤ mm) = True := by decide
theorem ni_lt {a b : Nat} (ha : a < 2147483648) (hb : b < 2147483648) : (nI a < nI b) = (a < b) := propext (nI_ltI ha hb)
theorem ni_le {a b : Nat} (ha : a < 2147483648) (hb : b < 2147483648) : (nI a ≤ nI b) = (a ≤ b) := propext (nI_leI ha hb)
theorem ni_eq {a b : Nat} (ha : a < 2147483648) (hb : b < 2147483648) : (nI a = nI b) = (a = b) := propext (nI_eq ha hb)
theorem ni_cl {a : Nat} (h : a < 2147483648) : (nI a).toNatClampNeg = a := nI_clamp h
theorem ni_in {a n : Nat} (hn : n < 2147483648) (h : a < n) : ce_in (nI a) n = true := by
  simp only [ce_in, Bool.and_eq_true, decide_eq_true_eq]
  refine ⟨nI_pos' (Nat.lt_trans h hn), ?_⟩
  rw [nI_clamp (Nat.lt_trans h hn)]
  exact h
theorem ni_sub1 {a : Nat} (h : 0 < a) : nI a - nI 1 = nI (a - 1) := pk_sub h
theorem ni_addm {a : Nat} (h : 0 < a) : nI a + mm = nI (a - 1) := by
  obtain ⟨b, rfl⟩ : ∃ b, a = b + 1 := ⟨a - 1, by omega⟩
  exact pk_m1 b
theorem ni_div {a d : Nat} (ha : a < 2147483648) (h0 : 0 < d) (hd : d < 2147483648) : nI a / nI d = nI (a / d) := pk_div ha h0 hd
theorem ni_rem {a d : Nat} (ha : a < 2147483648) (h0 : 0 < d) (hd : d < 2147483648) : nI a - nI (a / d) * nI d = nI (a % d) := by
  rw [← pk_rem ha h0 hd, pk_div ha h0 hd]
theorem ni_rem2 {a d : Nat} (h0 : 0 < d) : nI a - nI (a / d * d) = nI (a % d) := by
  rw [pk_sub (Nat.div_mul_le_self a d)]
  congr 1
  have := Nat.div_add_mod a d
  rw [Nat.mul_comm] at this
  omega
theorem ni_sub {a b : Nat} (h : b ≤ a) : nI a - nI b = nI (a - b) := pk_sub h
theorem ni_mul (a b : Nat) : nI a * nI b = nI (a * b) := pk_mul a b
theorem fr_0 : fr 0 = mm := rfl
theorem fr_s (x : Nat) : fr (x + 1) = nI x := by simp [fr]
theorem fr_p {x : Nat} (h : 0 < x) : fr x = nI (x - 1) := by simp only [fr]; rw [if_neg (by omega)]
theorem fr_z {x : Nat} (h : x = 0) : fr x = mm := by rw [h]; rfl
theorem fr_sub (x : Nat) : nI x - nI 1 = fr x := by
  by_cases h : x = 0
  · subst h; decide
  · rw [fr_p (by omega)]; exact pk_sub (by omega)
theorem fr_mm {x : Nat} (h : x < 2147483648) : (fr x = mm) = (x = 0) := by
  by_cases h0 : x = 0
  · subst h0; simp [fr]
  · rw [fr_p (by omega), ni_mm (by omega)]; simp [h0]
theorem fr_ge0 {x : Nat} (h : x < 2147483648) : (nI 0 ≤ fr x) = (0 < x) := by
  by_cases h0 : x = 0
  · subst h0; rw [fr_0, ni_le_mm (by omega)]; simp
  · rw [fr_p (by omega), ni_le (by omega) (by omega)]; simp; omega
theorem fr_lt0 {x : Nat} (h : x < 2147483648) : (fr x < nI 0) = (x = 0) := by
  by_cases h0 : x = 0
  · subst h0; rw [fr_0, mm_lt_ni (by omega)]; simp
  · rw [fr_p (by omega), ni_lt (by omega) (by omega)]; simp [h0]
theorem fr_inj {x y : Nat} (hx : x < 2147483648) (hy : y < 2147483648) : (fr x = fr y) = (x = y) := by
  by_cases h0 : x = 0
  · subst h0
    by_cases h1 : y = 0
    · subst h1; simp
    · rw [fr_0, fr_p (by omega), mm_ni (by omega)]; simp; omega
  · by_cases h1 : y = 0
    · subst h1; rw [fr_0, fr_p (by omega), ni_mm (by omega)]; simp [h0]
    · rw [fr_p (by omega), fr_p (by omega), ni_eq (by omega) (by omega)]
      exact propext ⟨fun h => by omega, fun h => by omega⟩
theorem l32_0 : (0 : Int32) = nI 0 := rfl
theorem l32_1 : (1 : Int32) = nI 1 := rfl
theorem l32_2 : (2 : Int32) = nI 2 := rfl
theorem l32_3 : (3 : Int32) = nI 3 := rfl
theorem l32_4 : (4 : Int32) = nI 4 := rfl
theorem l32_5 : (5 : Int32) = nI 5 := rfl
theorem l32_6 : (6 : Int32) = nI 6 := rfl
theorem l32_7 : (7 : Int32) = nI 7 := rfl
theorem l32_8 : (8 : Int32) = nI 8 := rfl
theorem l32_9 : (9 : Int32) = nI 9 := rfl
theorem l32_10 : (10 : Int32) = nI 10 := rfl
theorem l32_11 : (11 : Int32) = nI 11 := rfl
theorem l32_12 : (12 : Int32) = nI 12 := rfl
theorem l32_13 : (13 : Int32) = nI 13 := rfl
theorem l32_14 : (14 : Int32) = nI 14 := rfl
theorem l32_15 : (15 : Int32) = nI 15 := rfl
theorem l32_16 : (16 : Int32) = nI 16 := rfl
theorem l32_20 : (20 : Int32) = nI 20 := rfl
theorem l32_24 : (24 : Int32) = nI 24 := rfl
theorem l32_25 : (25 : Int32) = nI 25 := rfl
theorem l32_26 : (26 : Int32) = nI 26 := rfl
theorem l32_31 : (31 : Int32) = nI 31 := rfl
theorem l32_32 : (32 : Int32) = nI 32 := rfl
theorem l32_34 : (34 : Int32) = nI 34 := rfl
theorem l32_35 : (35 : Int32) = nI 35 := rfl
theorem l32_39 : (39 : Int32) = nI 39 := rfl
theorem l32_40 : (40 : Int32) = nI 40 := rfl
theorem l32_44 : (44 : Int32) = nI 44 := rfl
theorem l32_45 : (45 : Int32) = nI 45 := rfl
theorem l32_46 : (46 : Int32) = nI 46 := rfl
theorem l32_47 : (47 : Int32) = nI 47 := rfl
theorem l32_48 : (48 : Int32) = nI 48 := rfl
theorem l32_49 : (49 : Int32) = nI 49 := rfl
theorem l32_57 : (57 : Int32) = nI 57 := rfl
theorem l32_58 : (58 : Int32) = nI 58 := rfl
theorem l32_59 : (59 : Int32) = nI 59 := rfl
theorem l32_63 : (63 : Int32) = nI 63 := rfl
theorem l32_64 : (64 : Int32) = nI 64 := rfl
theorem l32_85 : (85 : Int32) = nI 85 := rfl
theorem l32_90 : (90 : Int32) = nI 90 := rfl
theorem l32_97 : (97 : Int32) = nI 97 := rfl
theorem l32_99 : (99 : Int32) = nI 99 := rfl
theorem l32_100 : (100 : Int32) = nI 100 := rfl
theorem l32_110 : (110 : Int32) = nI 110 := rfl
theorem l32_112 : (112 : Int32) = nI 112 := rfl
theorem l32_122 : (122 : Int32) = nI 122 := rfl
theorem l32_124 : (124 : Int32) = nI 124 := rfl
theorem l32_125 : (125 : Int32) = nI 125 := rfl
theorem l32_255 : (255 : Int32) = nI 255 := rfl
theorem l32_680 : (680 : Int32) = nI 680 := rfl
theorem l32_699 : (699 : Int32) = nI 699 := rfl
theorem l32_700 : (700 : Int32) = nI 700 := rfl
theorem l32_999 : (999 : Int32) = nI 999 := rfl
theorem l32_2500 : (2500 : Int32) = nI 2500 := rfl
theorem l32_99999 : (99999 : Int32) = nI 99999 := rfl
theorem l32_100000 : (100000 : Int32) = nI 100000 := rfl
theorem l32_1000000 : (1000000 : Int32) = nI 1000000 := rfl
theorem ni_max {a b : Nat} (ha : a < 2147483648) (hb : b < 2147483648) : (if nI a < nI b then nI b else nI a) = nI (max a b) := by
  rw [ite_congr (ni_lt ha hb) (fun _ => rfl) (fun _ => rfl)]
  by_cases h : a < b
  · rw [if_pos h, Nat.max_eq_right (by omega)]
  · rw [if_neg h, Nat.max_eq_left (by omega)]
theorem ni_min {a b : Nat} (ha : a < 2147483648) (hb : b < 2147483648) : (if nI b < nI a then nI b else nI a) = nI (min a b) := by
  rw [ite_congr (ni_lt hb ha) (fun _ => rfl) (fun _ => rfl)]
  by_cases h : b < a
  · rw [if_pos h, Nat.min_eq_right (by omega)]
  · rw [if_neg h, Nat.min_eq_left (by omega)]
/-- every int is negative, or a number -/
theorem i32_of (x : Int32) : (x < nI 0) ∨ ∃ a : Nat, a < 2147483648 ∧ x = nI a := by
  by_cases h : x < 0
  · exact Or.inl h
  · exact Or.inr (nI_of h)
-- heaps
theorem up_s (h : Hp) (k j : Nat) (v : Int32) : hp_up h k j v k j = v := by simp [hp_up, upd]
theorem up_k (h : Hp) (k j a b : Nat) (v : Int32) (hk : a ≠ k) : hp_up h k j v a b = h a b := by simp [hp_up, hk]
theorem up_j (h : Hp) (k j b : Nat) (v : Int32) (hj : b ≠ j) : hp_up h k j v k b = h k b := by simp [hp_up, upd, hj]
theorem up_kk (h : Hp) (k j a : Nat) (v : Int32) (hk : a ≠ k) : hp_up h k j v a = h a := by simp [hp_up, hk]
theorem up_e (h : Hp) (k j a b : Nat) (v : Int32) : hp_up h k j v a b = if a = k ∧ b = j then v else h a b := by
  by_cases ha : a = k
  · subst ha
    by_cases hb : b = j
    · subst hb; simp [up_s]
    · simp [up_j, hb]
  · simp [up_k, ha]
-- evaluation
def Ev {α : Type} (x : Option α) (P : α → Prop) : Prop := ∃ r, x = some r ∧ P r
theorem Ev.bind {α β : Type} {x : Option α} {f : α → Option β} {P : α → Prop} {Q : β → Prop} (h : Ev x P) (k : ∀ r, P r → Ev (f r) Q) : Ev (Option.bind x f) Q := by
  obtain ⟨r, rfl, hr⟩ := h
  exact k r hr
theorem Ev.grd {α : Type} {c : Prop} [Decidable c] {x : Option α} {P : α → Prop} (h : c) (k : Ev x P) : Ev (if c then x else none) P := by
  rw [if_pos h]; exact k
theorem Ev.ite {α : Type} {c : Prop} [Decidable c] {x y : Option α} {P : α → Prop} (k1 : c → Ev x P) (k2 : ¬ c → Ev y P) : Ev (if c then x else y) P := by
  by_cases h : c
  · rw [if_pos h]; exact k1 h
  · rw [if_neg h]; exact k2 h
theorem Ev.pos {α : Type} {c : Prop} [Decidable c] {x y : Option α} {P : α → Prop} (h : c) (k1 : Ev x P) : Ev (if c then x else y) P := by
  rw [if_pos h]; exact k1
theorem Ev.neg {α : Type} {c : Prop} [Decidable c] {x y : Option α} {P : α → Prop} (h : ¬ c) (k1 : Ev y P) : Ev (if c then x else y) P := by
  rw [if_neg h]; exact k1
theorem Ev.nm {α β : Type} {v : α} {f : α → Option β} {P : β → Prop} (k : Ev (f v) P) : Ev (ce_nm v f) P := k
theorem Ev.some {α : Type} {r : α} {P : α → Prop} (h : P r) : Ev (Option.some r) P := ⟨r, rfl, h⟩
theorem Ev.mono {α : Type} {x : Option α} {P Q : α → Prop} (h : Ev x P) (k : ∀ r, P r → Q r) : Ev x Q := by
  obtain ⟨r, h1, h2⟩ := h
  exact ⟨r, h1, k r h2⟩
theorem Ev.of {α : Type} {x : Option α} {r : α} {P : α → Prop} (e : x = Option.some r) (h : P r) : Ev x P := ⟨r, e, h⟩
/-- a loop with a bound n on its rounds: I at the head, P where it leaves -/
theorem Ev.it {σ ρ : Type} {B : σ → Option (σ ⊕ ρ)} (I : Nat → σ → Prop) (P : ρ → Prop) (n : Nat) (step : ∀ i s, i ≤ n → I i s → Ev (B s) (fun o => match o with | .inl s' => i < n ∧ I (i + 1) s' | .inr r => P r)) : ∀ (F i : Nat) (s : σ), i ≤ n → n < F + i → I i s → Ev (ce_it B F s) P := by
  intro F
  induction F with
  | zero => intro i s h1 h2; omega
  | succ F ih =>
    intro i s h1 h2 hI
    obtain ⟨o, e, ho⟩ := step i s h1 hI
    unfold ce_it
    rw [e]
    cases o with
    | inl s' => exact ih (i + 1) s' (by omega) (by omega) ho.2
    | inr r => exact ⟨r, rfl, ho⟩
/-- a loop whose measure falls -/
theorem Ev.itm {σ ρ : Type} {B : σ → Option (σ ⊕ ρ)} (I : σ → Prop) (μ : σ → Nat) (P : ρ → Prop) (step : ∀ s, I s → Ev (B s) (fun o => match o with | .inl s' => μ s' < μ s ∧ I s' | .inr r => P r)) : ∀ (F : Nat) (s : σ), μ s < F → I s → Ev (ce_it B F s) P := by
  intro F
  induction F with
  | zero => intro s h1; omega
  | succ F ih =>
    intro s h1 hI
    obtain ⟨o, e, ho⟩ := step s hI
    unfold ce_it
    rw [e]
    cases o with
    | inl s' => exact ih s' (by omega) ho.2
    | inr r => exact ⟨r, rfl, ho⟩
theorem x_endOf (F v p : Nat) (h : Hp) : f11_endOf F (nI v) (nI p) h = some (nI (4 * v + p), h) := by
  simp (disch := omega) only [up_s, up_k, up_j, mm_neg, mm_def, ni_lt, ni_le, ni_eq, ni_mm, mm_ni, ni_lt_mm, ni_le_mm, mm_lt_ni, mm_le_ni, mm_lt_mm, mm_le_mm, ni_cl, ni_in, nI_add, ni_mul, ni_div, ni_rem, ni_rem2, fr_sub, fr_mm, fr_ge0, fr_lt0, fr_inj, l32_0, l32_1, l32_2, l32_3, l32_4, l32_5, l32_6, l32_7, l32_8, l32_9, l32_10, l32_11, l32_12, l32_13, l32_14, l32_15, l32_16, l32_20, l32_24, l32_25, l32_26, l32_31, l32_32, l32_34, l32_35, l32_39, l32_40, l32_44, l32_45, l32_46, l32_47, l32_48, l32_49, l32_57, l32_58, l32_59, l32_63, l32_64, l32_85, l32_90, l32_97, l32_99, l32_100, l32_110, l32_112, l32_122, l32_124, l32_125, l32_255, l32_680, l32_699, l32_700, l32_999, l32_2500, l32_99999, l32_100000, l32_1000000, if_true, if_false, ite_true, ite_false, ce_nm, Option.bind, if_pos, if_neg, f11_endOf]
  rw [Nat.mul_comm]
theorem x_nodeOf (F e : Nat) (h : Hp) (he : e < 2147483648) : f11_nodeOf F (nI e) h = some (nI (e / 4), h) := by
  simp (disch := omega) only [up_s, up_k, up_j, mm_neg, mm_def, ni_lt, ni_le, ni_eq, ni_mm, mm_ni, ni_lt_mm, ni_le_mm, mm_lt_ni, mm_le_ni, mm_lt_mm, mm_le_mm, ni_cl, ni_in, nI_add, ni_mul, ni_div, ni_rem, ni_rem2, fr_sub, fr_mm, fr_ge0, fr_lt0, fr_inj, l32_0, l32_1, l32_2, l32_3, l32_4, l32_5, l32_6, l32_7, l32_8, l32_9, l32_10, l32_11, l32_12, l32_13, l32_14, l32_15, l32_16, l32_20, l32_24, l32_25, l32_26, l32_31, l32_32, l32_34, l32_35, l32_39, l32_40, l32_44, l32_45, l32_46, l32_47, l32_48, l32_49, l32_57, l32_58, l32_59, l32_63, l32_64, l32_85, l32_90, l32_97, l32_99, l32_100, l32_110, l32_112, l32_122, l32_124, l32_125, l32_255, l32_680, l32_699, l32_700, l32_999, l32_2500, l32_99999, l32_100000, l32_1000000, if_true, if_false, ite_true, ite_false, ce_nm, Option.bind, if_pos, if_neg, f11_nodeOf]
theorem x_portOf (F e : Nat) (h : Hp) (he : e < 2147483648) : f11_portOf F (nI e) h = some (nI (e % 4), h) := by
  simp (disch := omega) only [up_s, up_k, up_j, mm_neg, mm_def, ni_lt, ni_le, ni_eq, ni_mm, mm_ni, ni_lt_mm, ni_le_mm, mm_lt_ni, mm_le_ni, mm_lt_mm, mm_le_mm, ni_cl, ni_in, nI_add, ni_mul, ni_div, ni_rem, ni_rem2, fr_sub, fr_mm, fr_ge0, fr_lt0, fr_inj, l32_0, l32_1, l32_2, l32_3, l32_4, l32_5, l32_6, l32_7, l32_8, l32_9, l32_10, l32_11, l32_12, l32_13, l32_14, l32_15, l32_16, l32_20, l32_24, l32_25, l32_26, l32_31, l32_32, l32_34, l32_35, l32_39, l32_40, l32_44, l32_45, l32_46, l32_47, l32_48, l32_49, l32_57, l32_58, l32_59, l32_63, l32_64, l32_85, l32_90, l32_97, l32_99, l32_100, l32_110, l32_112, l32_122, l32_124, l32_125, l32_255, l32_680, l32_699, l32_700, l32_999, l32_2500, l32_99999, l32_100000, l32_1000000, if_true, if_false, ite_true, ite_false, ce_nm, Option.bind, if_pos, if_neg, f11_portOf]
theorem x_isCabled (F k e x : Nat) (h : Hp) (he : e < 40) (hx : x < 41) (hf : h (k + 5) e = fr x) : f5_isCabled F k (nI e) h = some (if x = 0 then nI 0 else nI 1, h) := by
  simp (disch := omega) only [up_s, up_k, up_j, mm_neg, mm_def, ni_lt, ni_le, ni_eq, ni_mm, mm_ni, ni_lt_mm, ni_le_mm, mm_lt_ni, mm_le_ni, mm_lt_mm, mm_le_mm, ni_cl, ni_in, nI_add, ni_mul, ni_div, ni_rem, ni_rem2, fr_sub, fr_mm, fr_ge0, fr_lt0, fr_inj, l32_0, l32_1, l32_2, l32_3, l32_4, l32_5, l32_6, l32_7, l32_8, l32_9, l32_10, l32_11, l32_12, l32_13, l32_14, l32_15, l32_16, l32_20, l32_24, l32_25, l32_26, l32_31, l32_32, l32_34, l32_35, l32_39, l32_40, l32_44, l32_45, l32_46, l32_47, l32_48, l32_49, l32_57, l32_58, l32_59, l32_63, l32_64, l32_85, l32_90, l32_97, l32_99, l32_100, l32_110, l32_112, l32_122, l32_124, l32_125, l32_255, l32_680, l32_699, l32_700, l32_999, l32_2500, l32_99999, l32_100000, l32_1000000, if_true, if_false, ite_true, ite_false, ce_nm, Option.bind, if_pos, if_neg, f5_isCabled, hf, if_true, if_false]
  by_cases h0 : x = 0
  · simp (disch := omega) only [up_s, up_k, up_j, mm_neg, mm_def, ni_lt, ni_le, ni_eq, ni_mm, mm_ni, ni_lt_mm, ni_le_mm, mm_lt_ni, mm_le_ni, mm_lt_mm, mm_le_mm, ni_cl, ni_in, nI_add, ni_mul, ni_div, ni_rem, ni_rem2, fr_sub, fr_mm, fr_ge0, fr_lt0, fr_inj, l32_0, l32_1, l32_2, l32_3, l32_4, l32_5, l32_6, l32_7, l32_8, l32_9, l32_10, l32_11, l32_12, l32_13, l32_14, l32_15, l32_16, l32_20, l32_24, l32_25, l32_26, l32_31, l32_32, l32_34, l32_35, l32_39, l32_40, l32_44, l32_45, l32_46, l32_47, l32_48, l32_49, l32_57, l32_58, l32_59, l32_63, l32_64, l32_85, l32_90, l32_97, l32_99, l32_100, l32_110, l32_112, l32_122, l32_124, l32_125, l32_255, l32_680, l32_699, l32_700, l32_999, l32_2500, l32_99999, l32_100000, l32_1000000, if_true, if_false, ite_true, ite_false, ce_nm, Option.bind, if_pos, if_neg, h0, fr_0]
  · simp (disch := omega) only [up_s, up_k, up_j, mm_neg, mm_def, ni_lt, ni_le, ni_eq, ni_mm, mm_ni, ni_lt_mm, ni_le_mm, mm_lt_ni, mm_le_ni, mm_lt_mm, mm_le_mm, ni_cl, ni_in, nI_add, ni_mul, ni_div, ni_rem, ni_rem2, fr_sub, fr_mm, fr_ge0, fr_lt0, fr_inj, l32_0, l32_1, l32_2, l32_3, l32_4, l32_5, l32_6, l32_7, l32_8, l32_9, l32_10, l32_11, l32_12, l32_13, l32_14, l32_15, l32_16, l32_20, l32_24, l32_25, l32_26, l32_31, l32_32, l32_34, l32_35, l32_39, l32_40, l32_44, l32_45, l32_46, l32_47, l32_48, l32_49, l32_57, l32_58, l32_59, l32_63, l32_64, l32_85, l32_90, l32_97, l32_99, l32_100, l32_110, l32_112, l32_122, l32_124, l32_125, l32_255, l32_680, l32_699, l32_700, l32_999, l32_2500, l32_99999, l32_100000, l32_1000000, if_true, if_false, ite_true, ite_false, ce_nm, Option.bind, if_pos, if_neg, h0, fr_p]
