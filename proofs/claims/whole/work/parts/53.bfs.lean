-- Arrays.fill, Walk.spread, Walk.start
theorem x_fill {F k n : Nat} {v : Int32} {h : Hp} (hn : n < 2147483647) (hF : n < F) : Ev (f7_fill_53178 F k n v h) (fun h' => (∀ c, c ≠ k → h' c = h c) ∧ ∀ j, j < n → h' k j = v) := by
  unfold f7_fill_53178
  refine Ev.bind (P := fun h' => (∀ c, c ≠ k → h' c = h c) ∧ ∀ j, j < n → h' k j = v) ?_ (fun r hr => Ev.some hr)
  refine Ev.it (I := fun i st => st.1 = nI i ∧ (∀ c, c ≠ k → st.2 c = h c) ∧ ∀ j, j < i → st.2 k j = v) _ n ?_ F 0 _ (by omega) (by omega) ⟨rfl, fun _ _ => rfl, fun j hj => absurd hj (by omega)⟩
  rintro i ⟨x, h1⟩ hi ⟨rfl, i2, i3⟩
  unfold f7_fill_53178_b5
  by_cases hin : n ≤ i
  · refine Ev.pos (by simp (disch := omega) only [up_s, up_k, up_j, mm_neg, mm_def, ni_lt, ni_le, ni_eq, ni_mm, mm_ni, ni_lt_mm, ni_le_mm, mm_lt_ni, mm_le_ni, mm_lt_mm, mm_le_mm, ni_cl, ni_in, nI_add, ni_mul, ni_div, ni_rem, ni_rem2, fr_sub, fr_mm, fr_ge0, fr_lt0, fr_inj, l32_0, l32_1, l32_2, l32_3, l32_4, l32_5, l32_6, l32_7, l32_8, l32_9, l32_10, l32_11, l32_12, l32_13, l32_14, l32_15, l32_16, l32_20, l32_24, l32_25, l32_26, l32_31, l32_32, l32_34, l32_35, l32_39, l32_40, l32_44, l32_45, l32_46, l32_47, l32_48, l32_49, l32_57, l32_58, l32_59, l32_63, l32_64, l32_85, l32_90, l32_97, l32_99, l32_100, l32_110, l32_112, l32_122, l32_124, l32_125, l32_255, l32_680, l32_699, l32_700, l32_999, l32_2500, l32_99999, l32_100000, l32_1000000, if_true, if_false, ite_true, ite_false, ce_nm, Option.bind, if_pos, if_neg]; exact hin) (Ev.some ?_)
    have : i = n := by omega
    subst this
    exact ⟨i2, i3⟩
  · refine Ev.neg (by simp (disch := omega) only [up_s, up_k, up_j, mm_neg, mm_def, ni_lt, ni_le, ni_eq, ni_mm, mm_ni, ni_lt_mm, ni_le_mm, mm_lt_ni, mm_le_ni, mm_lt_mm, mm_le_mm, ni_cl, ni_in, nI_add, ni_mul, ni_div, ni_rem, ni_rem2, fr_sub, fr_mm, fr_ge0, fr_lt0, fr_inj, l32_0, l32_1, l32_2, l32_3, l32_4, l32_5, l32_6, l32_7, l32_8, l32_9, l32_10, l32_11, l32_12, l32_13, l32_14, l32_15, l32_16, l32_20, l32_24, l32_25, l32_26, l32_31, l32_32, l32_34, l32_35, l32_39, l32_40, l32_44, l32_45, l32_46, l32_47, l32_48, l32_49, l32_57, l32_58, l32_59, l32_63, l32_64, l32_85, l32_90, l32_97, l32_99, l32_100, l32_110, l32_112, l32_122, l32_124, l32_125, l32_255, l32_680, l32_699, l32_700, l32_999, l32_2500, l32_99999, l32_100000, l32_1000000, if_true, if_false, ite_true, ite_false, ce_nm, Option.bind, if_pos, if_neg]; exact hin) (Ev.grd (by simp (disch := omega) only [up_s, up_k, up_j, mm_neg, mm_def, ni_lt, ni_le, ni_eq, ni_mm, mm_ni, ni_lt_mm, ni_le_mm, mm_lt_ni, mm_le_ni, mm_lt_mm, mm_le_mm, ni_cl, ni_in, nI_add, ni_mul, ni_div, ni_rem, ni_rem2, fr_sub, fr_mm, fr_ge0, fr_lt0, fr_inj, l32_0, l32_1, l32_2, l32_3, l32_4, l32_5, l32_6, l32_7, l32_8, l32_9, l32_10, l32_11, l32_12, l32_13, l32_14, l32_15, l32_16, l32_20, l32_24, l32_25, l32_26, l32_31, l32_32, l32_34, l32_35, l32_39, l32_40, l32_44, l32_45, l32_46, l32_47, l32_48, l32_49, l32_57, l32_58, l32_59, l32_63, l32_64, l32_85, l32_90, l32_97, l32_99, l32_100, l32_110, l32_112, l32_122, l32_124, l32_125, l32_255, l32_680, l32_699, l32_700, l32_999, l32_2500, l32_99999, l32_100000, l32_1000000, if_true, if_false, ite_true, ite_false, ce_nm, Option.bind, if_pos, if_neg]) (Ev.nm (Ev.some ?_)))
    refine ⟨by omega, by simp (disch := omega) only [up_s, up_k, up_j, mm_neg, mm_def, ni_lt, ni_le, ni_eq, ni_mm, mm_ni, ni_lt_mm, ni_le_mm, mm_lt_ni, mm_le_ni, mm_lt_mm, mm_le_mm, ni_cl, ni_in, nI_add, ni_mul, ni_div, ni_rem, ni_rem2, fr_sub, fr_mm, fr_ge0, fr_lt0, fr_inj, l32_0, l32_1, l32_2, l32_3, l32_4, l32_5, l32_6, l32_7, l32_8, l32_9, l32_10, l32_11, l32_12, l32_13, l32_14, l32_15, l32_16, l32_20, l32_24, l32_25, l32_26, l32_31, l32_32, l32_34, l32_35, l32_39, l32_40, l32_44, l32_45, l32_46, l32_47, l32_48, l32_49, l32_57, l32_58, l32_59, l32_63, l32_64, l32_85, l32_90, l32_97, l32_99, l32_100, l32_110, l32_112, l32_122, l32_124, l32_125, l32_255, l32_680, l32_699, l32_700, l32_999, l32_2500, l32_99999, l32_100000, l32_1000000, if_true, if_false, ite_true, ite_false, ce_nm, Option.bind, if_pos, if_neg], fun c hc => ?_, fun j hj => ?_⟩
    · show hp_up h1 k _ v c = h c
      rw [up_kk _ _ _ _ _ hc]
      exact i2 c hc
    · show hp_up h1 k _ v k j = v
      simp (disch := omega) only [up_s, up_k, up_j, mm_neg, mm_def, ni_lt, ni_le, ni_eq, ni_mm, mm_ni, ni_lt_mm, ni_le_mm, mm_lt_ni, mm_le_ni, mm_lt_mm, mm_le_mm, ni_cl, ni_in, nI_add, ni_mul, ni_div, ni_rem, ni_rem2, fr_sub, fr_mm, fr_ge0, fr_lt0, fr_inj, l32_0, l32_1, l32_2, l32_3, l32_4, l32_5, l32_6, l32_7, l32_8, l32_9, l32_10, l32_11, l32_12, l32_13, l32_14, l32_15, l32_16, l32_20, l32_24, l32_25, l32_26, l32_31, l32_32, l32_34, l32_35, l32_39, l32_40, l32_44, l32_45, l32_46, l32_47, l32_48, l32_49, l32_57, l32_58, l32_59, l32_63, l32_64, l32_85, l32_90, l32_97, l32_99, l32_100, l32_110, l32_112, l32_122, l32_124, l32_125, l32_255, l32_680, l32_699, l32_700, l32_999, l32_2500, l32_99999, l32_100000, l32_1000000, if_true, if_false, ite_true, ite_false, ce_nm, Option.bind, if_pos, if_neg]
      by_cases e : j = i
      · rw [e, up_s]
      · rw [up_j _ _ _ _ _ e]
        exact i3 j (by omega)
/-- how far a walk has come -/
def Bi (m o : Nat → Nat) (a : Nat) (h : Hp) (s : Nat) (q hp dy : Nat → Nat) : Prop := Bs h s q hp dy ∧ 0 < s ∧ hp a = 1 ∧ dy a = 1 ∧ (∀ v, v < 10 → hp v ≠ 0 → Cn o a v) ∧ ∀ w, w < 10 → hp w ≠ 0 → w ≠ a → ∃ e, e < 40 ∧ o e ≠ 0 ∧ (o e - 1) / 4 = w ∧ hp (e / 4) ≠ 0 ∧ hp w = hp (e / 4) + 1 ∧ dy w = dy (e / 4) + (if hp (e / 4) = 1 then 0 else m 1) + m (85 + e)
def Bx (s : Nat) (q hp dy : Nat → Nat) (s' : Nat) (q' hp' dy' : Nat → Nat) : Prop := s ≤ s' ∧ (∀ i, i < s → q' i = q i) ∧ ∀ v, v < 10 → hp v ≠ 0 → hp' v = hp v ∧ dy' v = dy v
theorem Bx.refl (s : Nat) (q hp dy : Nat → Nat) : Bx s q hp dy s q hp dy := ⟨Nat.le_refl _, fun _ _ => rfl, fun _ _ _ => ⟨rfl, rfl⟩⟩
theorem Bx.trans {s s1 s2 : Nat} {q hp dy q1 hp1 dy1 q2 hp2 dy2 : Nat → Nat} (a : Bx s q hp dy s1 q1 hp1 dy1) (b : Bx s1 q1 hp1 dy1 s2 q2 hp2 dy2) : Bx s q hp dy s2 q2 hp2 dy2 := by
  obtain ⟨a1, a2, a3⟩ := a
  obtain ⟨b1, b2, b3⟩ := b
  refine ⟨by omega, fun i hi => by rw [b2 i (by omega), a2 i hi], fun v hv h0 => ?_⟩
  obtain ⟨z1, z2⟩ := a3 v hv h0
  obtain ⟨y1, y2⟩ := b3 v hv (by omega)
  exact ⟨by omega, by omega⟩
/-- one more is reached, or was -/
theorem Bi.reach {m o : Nat → Nat} {a s u e w F : Nat} {h : Hp} {q hp dy : Nat → Nat} (B : Bi m o a h s q hp dy) (g : Gr o) (hm : m 1 ≤ 9) (ha : a < 10) (he : e < 40) (hu : e / 4 = u) (h0 : o e ≠ 0) (hw : (o e - 1) / 4 = w) (hur : hp u ≠ 0) (hl : m (85 + e) ≤ 9) (hl1 : 1 ≤ m (85 + e)) :
    Ev (f10_reach F (nI w) (nI (dy u - 1 + (if hp u = 1 then 0 else m 1) + m (85 + e))) (nI (hp u)) h) (fun h' => Fw h h' ∧ ∃ s' q' hp' dy', Bi m o a h' s' q' hp' dy' ∧ Bx s q hp dy s' q' hp' dy' ∧ hp' w ≠ 0) := by
  obtain ⟨b, b1, b2, b3, b4, b5⟩ := B
  obtain ⟨g1, g2, g3⟩ := g e he h0
  have hw10 : w < 10 := by omega
  have hu10 : u < 10 := by omega
  refine Ev.of (x_reach b hw10) ?_
  obtain ⟨c1, c2, c3, c4, c5, c6, c7⟩ := id b
  obtain ⟨u1, u2, u3⟩ := c7 u hu10
  by_cases hr : hp w = 0
  · have hs : s < 10 := by
      apply Classical.byContradiction
      intro z
      have : s = 10 := by omega
      subst this
      obtain ⟨i, i1, i2⟩ := ten_all (fun i hi => (c3 i hi).2) (fun i j hi hj => c5 i j hi hj) hw10
      exact (c6 w hw10).mpr ⟨i, i1, i2⟩ hr
    rw [if_pos ⟨hr, hs⟩]
    have hu3 := u3 hur
    have hwa : w ≠ a := by intro z; rw [z, b2] at hr; omega
    have huw : u ≠ w := by intro z; rw [z] at hur; exact hur hr
    have ew : un hp w (hp u + 1) w = hp u + 1 := un_s _ _ _
    have ed : un dy w (dy u - 1 + (if hp u = 1 then 0 else m 1) + m (85 + e) + 1) w = dy u - 1 + (if hp u = 1 then 0 else m 1) + m (85 + e) + 1 := un_s _ _ _
    have hif : (if hp u = 1 then 0 else m 1) ≤ 9 := by split <;> omega
    refine ⟨push_fw h s w _ _ _ _, s + 1, un q s w, un hp w (hp u + 1), un dy w (dy u - 1 + (if hp u = 1 then 0 else m 1) + m (85 + e) + 1), ⟨Bs.push b hw10 hr hs (by omega) (by omega), by omega, ?_, ?_, ?_, ?_⟩, ⟨by omega, fun i hi => un_n (by omega), fun v hv hv0 => ?_⟩, by omega⟩
    · rw [un_n (fun z => hwa z.symm)]; exact b2
    · rw [un_n (fun z => hwa z.symm)]; exact b3
    · intro v hv hv0
      by_cases z : v = w
      · rw [z, ← hw]
        exact Cn.step he h0 (by rw [hu]; exact b4 u hu10 hur)
      · rw [un_n z] at hv0
        exact b4 v hv hv0
    · intro v hv hv0 hva
      by_cases z : v = w
      · refine ⟨e, he, h0, by rw [z]; exact hw, ?_, ?_, ?_⟩
        · rw [hu, un_n huw]; exact hur
        · rw [z, ew, hu, un_n huw]
        · rw [z, ed, hu, un_n huw, un_n huw]; omega
      · rw [un_n z] at hv0
        obtain ⟨e', z1, z2, z3, z4, z5, z6⟩ := b5 v hv hv0 hva
        have z7 : e' / 4 ≠ w := by intro y; rw [y] at z4; exact z4 hr
        exact ⟨e', z1, z2, z3, by rw [un_n z7]; exact z4, by rw [un_n z, un_n z7]; exact z5, by rw [un_n z, un_n z7, un_n z7]; exact z6⟩
    · have z : v ≠ w := by intro y; rw [y] at hv0; exact hv0 hr
      exact ⟨un_n z, un_n z⟩
  · rw [if_neg (by omega)]
    exact ⟨Fw.refl h, s, q, hp, dy, ⟨b, b1, b2, b3, b4, b5⟩, Bx.refl _ _ _ _, hr⟩
theorem fr_eq_ni {x e : Nat} (hx : x < 2147483648) (he : e < 2147483647) : (nI e = fr x) = (e + 1 = x) := by
  rw [← fr_s e, fr_inj (by omega) hx]
/-- Walk.spread: all that a node's cables lead to is reached -/
theorem x_spread {m o : Nat → Nat} {k a s u lx F : Nat} {h : Hp} {q hp dy : Nat → Nat} (hk : ce_isNet k) (ok : OkG m) (cn : CNw h k m) (ho : o = cu (og m) lx) (hlx : lx ≤ 40) (ha : a < 10) (B : Bi m o a h s q hp dy) (hu : u < m 2) (hur : hp u ≠ 0) (hF : 1000 ≤ F) :
    Ev (f10_spread F k (nI u) (fr lx) h) (fun h' => Fw h h' ∧ ∃ s' q' hp' dy', Bi m o a h' s' q' hp' dy' ∧ Bx s q hp dy s' q' hp' dy' ∧ ∀ e, e < 40 → e / 4 = u → o e ≠ 0 → hp' ((o e - 1) / 4) ≠ 0) := by
  obtain ⟨k1, k2, k3, k4, k5⟩ := id ok
  have hu10 : u < 10 := by omega
  have hp1 : (h 43 u = fr (hp u)) := (B.1.2.2.2.1 u hu10).1
  have hpu10 : hp u ≤ 10 := Nat.le_trans (B.1.2.2.2.2.2.2 u hu10).1 B.1.2.1
  have g : Gr o := by rw [ho]; exact cu_gr k4 lx
  have loop : Ev (ce_it (fun (st : Int32 × Hp) => f10_spread_b22 F k (nI u) (fr lx) (nI (if hp u = 1 then 0 else m 1)) st.1 st.2) F (nI 0, h)) (fun h' => Fw h h' ∧ ∃ s' q' hp' dy', Bi m o a h' s' q' hp' dy' ∧ Bx s q hp dy s' q' hp' dy' ∧ ∀ e, e < 40 → e / 4 = u → o e ≠ 0 → hp' ((o e - 1) / 4) ≠ 0) := by
    refine Ev.it (I := fun i st => st.1 = nI i ∧ Fw h st.2 ∧ ∃ s' q' hp' dy', Bi m o a st.2 s' q' hp' dy' ∧ Bx s q hp dy s' q' hp' dy' ∧ ∀ e, e < 40 → e / 4 = u → e % 4 < i → o e ≠ 0 → hp' ((o e - 1) / 4) ≠ 0) _ (m (5 + u)) ?_ F 0 _ (by omega) (by have := (k3 u hu).2; omega) ⟨rfl, Fw.refl h, s, q, hp, dy, B, Bx.refl _ _ _ _, fun e _ _ he => absurd he (by omega)⟩
    rintro i ⟨x, h1⟩ hi ⟨rfl, f1, s1, q1, hp1', dy1, B1, x1, cl⟩
    have f1 : Fw h h1 := f1
    have B1 : Bi m o a h1 s1 q1 hp1' dy1 := B1
    have hi4 := (k3 u hu).2
    have cn1 := cn.fw hk f1
    obtain ⟨n1, n2, n3, n4, n5⟩ := id cn1
    have n3u := n3 u hu
    show Ev (f10_spread_b22 F k (nI u) (fr lx) (nI (if hp u = 1 then 0 else m 1)) (nI i) h1) _
    unfold f10_spread_b22
    refine Ev.grd (by simp (disch := omega) only [up_s, up_k, up_j, mm_neg, mm_def, ni_lt, ni_le, ni_eq, ni_mm, mm_ni, ni_lt_mm, ni_le_mm, mm_lt_ni, mm_le_ni, mm_lt_mm, mm_le_mm, ni_cl, ni_in, nI_add, ni_mul, ni_div, ni_rem, ni_rem2, fr_sub, fr_mm, fr_ge0, fr_lt0, fr_inj, l32_0, l32_1, l32_2, l32_3, l32_4, l32_5, l32_6, l32_7, l32_8, l32_9, l32_10, l32_11, l32_12, l32_13, l32_14, l32_15, l32_16, l32_20, l32_24, l32_25, l32_26, l32_31, l32_32, l32_34, l32_35, l32_39, l32_40, l32_44, l32_45, l32_46, l32_47, l32_48, l32_49, l32_57, l32_58, l32_59, l32_63, l32_64, l32_85, l32_90, l32_97, l32_99, l32_100, l32_110, l32_112, l32_122, l32_124, l32_125, l32_255, l32_680, l32_699, l32_700, l32_999, l32_2500, l32_99999, l32_100000, l32_1000000, if_true, if_false, ite_true, ite_false, ce_nm, Option.bind, if_pos, if_neg]) ?_
    by_cases hin : m (5 + u) ≤ i
    · refine Ev.pos (by simp (disch := omega) only [up_s, up_k, up_j, mm_neg, mm_def, ni_lt, ni_le, ni_eq, ni_mm, mm_ni, ni_lt_mm, ni_le_mm, mm_lt_ni, mm_le_ni, mm_lt_mm, mm_le_mm, ni_cl, ni_in, nI_add, ni_mul, ni_div, ni_rem, ni_rem2, fr_sub, fr_mm, fr_ge0, fr_lt0, fr_inj, l32_0, l32_1, l32_2, l32_3, l32_4, l32_5, l32_6, l32_7, l32_8, l32_9, l32_10, l32_11, l32_12, l32_13, l32_14, l32_15, l32_16, l32_20, l32_24, l32_25, l32_26, l32_31, l32_32, l32_34, l32_35, l32_39, l32_40, l32_44, l32_45, l32_46, l32_47, l32_48, l32_49, l32_57, l32_58, l32_59, l32_63, l32_64, l32_85, l32_90, l32_97, l32_99, l32_100, l32_110, l32_112, l32_122, l32_124, l32_125, l32_255, l32_680, l32_699, l32_700, l32_999, l32_2500, l32_99999, l32_100000, l32_1000000, if_true, if_false, ite_true, ite_false, ce_nm, Option.bind, if_pos, if_neg, n3u]; exact hin) (Ev.some ⟨f1, s1, q1, hp1', dy1, B1, x1, fun e he heu h0 => cl e he heu ?_ h0⟩)
      have h00 : og m e ≠ 0 := by rw [ho] at h0; exact (cu_ne h0).1
      have := (k5 e he h00).2.1
      rw [heu] at this
      omega
    · refine Ev.neg (by simp (disch := omega) only [up_s, up_k, up_j, mm_neg, mm_def, ni_lt, ni_le, ni_eq, ni_mm, mm_ni, ni_lt_mm, ni_le_mm, mm_lt_ni, mm_le_ni, mm_lt_mm, mm_le_mm, ni_cl, ni_in, nI_add, ni_mul, ni_div, ni_rem, ni_rem2, fr_sub, fr_mm, fr_ge0, fr_lt0, fr_inj, l32_0, l32_1, l32_2, l32_3, l32_4, l32_5, l32_6, l32_7, l32_8, l32_9, l32_10, l32_11, l32_12, l32_13, l32_14, l32_15, l32_16, l32_20, l32_24, l32_25, l32_26, l32_31, l32_32, l32_34, l32_35, l32_39, l32_40, l32_44, l32_45, l32_46, l32_47, l32_48, l32_49, l32_57, l32_58, l32_59, l32_63, l32_64, l32_85, l32_90, l32_97, l32_99, l32_100, l32_110, l32_112, l32_122, l32_124, l32_125, l32_255, l32_680, l32_699, l32_700, l32_999, l32_2500, l32_99999, l32_100000, l32_1000000, if_true, if_false, ite_true, ite_false, ce_nm, Option.bind, if_pos, if_neg, n3u]; exact hin) ?_
      obtain ⟨en, hen⟩ : ∃ e, e = 4 * u + i := ⟨_, rfl⟩
      have he40 : en < 40 := by omega
      have heu : en / 4 = u := by omega
      have hem : en % 4 = i := by omega
      rw [x_endOf, ← hen]
      have hx41 : og m en < 41 := by
        by_cases z : og m en = 0
        · omega
        · have := (k4 en he40 z).1; omega
      show Ev (Option.bind (f5_isCabled F k (nI en) h1) _) _
      rw [x_isCabled F k en (og m en) h1 he40 hx41 (n4 en he40)]
      have hun : hp1' u = hp u ∧ dy1 u = dy u := x1.2.2 u hu10 hur
      have next : ∀ h2 : Hp, Fw h1 h2 → (∃ s2 q2 hp2 dy2, Bi m o a h2 s2 q2 hp2 dy2 ∧ Bx s1 q1 hp1' dy1 s2 q2 hp2 dy2 ∧ (o en ≠ 0 → hp2 ((o en - 1) / 4) ≠ 0)) → (i < m (5 + u) ∧ nI (i + 1) = nI (i + 1) ∧ Fw h h2 ∧ ∃ s' q' hp' dy', Bi m o a h2 s' q' hp' dy' ∧ Bx s q hp dy s' q' hp' dy' ∧ ∀ e, e < 40 → e / 4 = u → e % 4 < i + 1 → o e ≠ 0 → hp' ((o e - 1) / 4) ≠ 0) := by
        rintro h2 f2 ⟨s2, q2, hp2, dy2, B2, x2, cl2⟩
        refine ⟨by omega, rfl, f1.trans f2, s2, q2, hp2, dy2, B2, x1.trans x2, fun e he heu2 hlt h0 => ?_⟩
        by_cases z : e % 4 = i
        · have : e = en := by omega
          subst this
          exact cl2 h0
        · have y := cl e he heu2 (by omega) h0
          have g9 := g e he h0
          have := (x2.2.2 ((o e - 1) / 4) (by omega) y).1
          omega
      have same : o en = 0 → ∃ s2 q2 hp2 dy2, Bi m o a h1 s2 q2 hp2 dy2 ∧ Bx s1 q1 hp1' dy1 s2 q2 hp2 dy2 ∧ (o en ≠ 0 → hp2 ((o en - 1) / 4) ≠ 0) := fun z => ⟨s1, q1, hp1', dy1, B1, Bx.refl _ _ _ _, fun y => absurd z y⟩
      by_cases hz : og m en = 0
      · simp (disch := omega) only [up_s, up_k, up_j, mm_neg, mm_def, ni_lt, ni_le, ni_eq, ni_mm, mm_ni, ni_lt_mm, ni_le_mm, mm_lt_ni, mm_le_ni, mm_lt_mm, mm_le_mm, ni_cl, ni_in, nI_add, ni_mul, ni_div, ni_rem, ni_rem2, fr_sub, fr_mm, fr_ge0, fr_lt0, fr_inj, l32_0, l32_1, l32_2, l32_3, l32_4, l32_5, l32_6, l32_7, l32_8, l32_9, l32_10, l32_11, l32_12, l32_13, l32_14, l32_15, l32_16, l32_20, l32_24, l32_25, l32_26, l32_31, l32_32, l32_34, l32_35, l32_39, l32_40, l32_44, l32_45, l32_46, l32_47, l32_48, l32_49, l32_57, l32_58, l32_59, l32_63, l32_64, l32_85, l32_90, l32_97, l32_99, l32_100, l32_110, l32_112, l32_122, l32_124, l32_125, l32_255, l32_680, l32_699, l32_700, l32_999, l32_2500, l32_99999, l32_100000, l32_1000000, if_true, if_false, ite_true, ite_false, ce_nm, Option.bind, if_pos, if_neg, hz]
        refine Ev.some (next h1 (Fw.refl h1) (same ?_))
        rw [ho]; unfold cu; simp [hz]
      · by_cases hl : en + 1 = lx
        · simp (disch := omega) only [up_s, up_k, up_j, mm_neg, mm_def, ni_lt, ni_le, ni_eq, ni_mm, mm_ni, ni_lt_mm, ni_le_mm, mm_lt_ni, mm_le_ni, mm_lt_mm, mm_le_mm, ni_cl, ni_in, nI_add, ni_mul, ni_div, ni_rem, ni_rem2, fr_sub, fr_mm, fr_ge0, fr_lt0, fr_inj, l32_0, l32_1, l32_2, l32_3, l32_4, l32_5, l32_6, l32_7, l32_8, l32_9, l32_10, l32_11, l32_12, l32_13, l32_14, l32_15, l32_16, l32_20, l32_24, l32_25, l32_26, l32_31, l32_32, l32_34, l32_35, l32_39, l32_40, l32_44, l32_45, l32_46, l32_47, l32_48, l32_49, l32_57, l32_58, l32_59, l32_63, l32_64, l32_85, l32_90, l32_97, l32_99, l32_100, l32_110, l32_112, l32_122, l32_124, l32_125, l32_255, l32_680, l32_699, l32_700, l32_999, l32_2500, l32_99999, l32_100000, l32_1000000, if_true, if_false, ite_true, ite_false, ce_nm, Option.bind, if_pos, if_neg, hz, fr_eq_ni, hl]
          refine Ev.some (next h1 (Fw.refl h1) (same ?_))
          rw [ho]; unfold cu; simp [hl]
        · have n4e := n4 en he40
          by_cases hl2 : og m en = lx
          · simp (disch := omega) only [up_s, up_k, up_j, mm_neg, mm_def, ni_lt, ni_le, ni_eq, ni_mm, mm_ni, ni_lt_mm, ni_le_mm, mm_lt_ni, mm_le_ni, mm_lt_mm, mm_le_mm, ni_cl, ni_in, nI_add, ni_mul, ni_div, ni_rem, ni_rem2, fr_sub, fr_mm, fr_ge0, fr_lt0, fr_inj, l32_0, l32_1, l32_2, l32_3, l32_4, l32_5, l32_6, l32_7, l32_8, l32_9, l32_10, l32_11, l32_12, l32_13, l32_14, l32_15, l32_16, l32_20, l32_24, l32_25, l32_26, l32_31, l32_32, l32_34, l32_35, l32_39, l32_40, l32_44, l32_45, l32_46, l32_47, l32_48, l32_49, l32_57, l32_58, l32_59, l32_63, l32_64, l32_85, l32_90, l32_97, l32_99, l32_100, l32_110, l32_112, l32_122, l32_124, l32_125, l32_255, l32_680, l32_699, l32_700, l32_999, l32_2500, l32_99999, l32_100000, l32_1000000, if_true, if_false, ite_true, ite_false, ce_nm, Option.bind, if_pos, if_neg, hz, fr_eq_ni, hl, n4e, hl2]
            refine Ev.some (next h1 (Fw.refl h1) (same ?_))
            rw [ho]; unfold cu; simp [hl2]
          · have ho2 : o en = og m en := by rw [ho]; unfold cu; rw [if_neg (by omega)]
            have n5e := n5 en he40 hz
            obtain ⟨y1, y2, y3, y4, y5⟩ := k5 en he40 hz
            obtain ⟨w1, w2⟩ := B1.1.2.2.2.1 u hu10
            have w3 := (B1.1.2.2.2.2.2.2 u hu10)
            have hd0 : dy u ≠ 0 := fun z => (w3.2.2 (by rw [hun.1]; exact hur)) (by rw [hun.2]; exact z)
            have er := Bi.reach (F := F) (e := en) (u := u) (w := (o en - 1) / 4) B1 g k1 ha he40 heu (by omega) rfl (by omega) y4 y3
            rw [hun.1, hun.2, ho2] at er
            rw [hun.1] at w1
            rw [hun.2] at w2
            have fw1 : fr (og m en) = nI (og m en - 1) := fr_p (by omega)
            have fw2 : fr (dy u) = nI (dy u - 1) := fr_p (by omega)
            have fw3 : fr (hp u) = nI (hp u - 1) := fr_p (by omega)
            have e9 : hp u - 1 + 1 = hp u := by omega
            simp (disch := omega) only [up_s, up_k, up_j, mm_neg, mm_def, ni_lt, ni_le, ni_eq, ni_mm, mm_ni, ni_lt_mm, ni_le_mm, mm_lt_ni, mm_le_ni, mm_lt_mm, mm_le_mm, ni_cl, ni_in, nI_add, ni_mul, ni_div, ni_rem, ni_rem2, fr_sub, fr_mm, fr_ge0, fr_lt0, fr_inj, l32_0, l32_1, l32_2, l32_3, l32_4, l32_5, l32_6, l32_7, l32_8, l32_9, l32_10, l32_11, l32_12, l32_13, l32_14, l32_15, l32_16, l32_20, l32_24, l32_25, l32_26, l32_31, l32_32, l32_34, l32_35, l32_39, l32_40, l32_44, l32_45, l32_46, l32_47, l32_48, l32_49, l32_57, l32_58, l32_59, l32_63, l32_64, l32_85, l32_90, l32_97, l32_99, l32_100, l32_110, l32_112, l32_122, l32_124, l32_125, l32_255, l32_680, l32_699, l32_700, l32_999, l32_2500, l32_99999, l32_100000, l32_1000000, if_true, if_false, ite_true, ite_false, ce_nm, Option.bind, if_pos, if_neg, hz, fr_eq_ni, hl, n4e, hl2, fw1, x_nodeOf, w1, w2, n5e, fw2, fw3, e9]
            refine Ev.bind er (fun h2 hh => Ev.some (next h2 hh.1 ?_))
            obtain ⟨-, s2, q2, hp2, dy2, B2, x2, cl2⟩ := hh
            exact ⟨s2, q2, hp2, dy2, B2, x2, fun _ => by rw [ho2]; exact cl2⟩
  unfold f10_spread
  refine Ev.grd (by simp (disch := omega) only [up_s, up_k, up_j, mm_neg, mm_def, ni_lt, ni_le, ni_eq, ni_mm, mm_ni, ni_lt_mm, ni_le_mm, mm_lt_ni, mm_le_ni, mm_lt_mm, mm_le_mm, ni_cl, ni_in, nI_add, ni_mul, ni_div, ni_rem, ni_rem2, fr_sub, fr_mm, fr_ge0, fr_lt0, fr_inj, l32_0, l32_1, l32_2, l32_3, l32_4, l32_5, l32_6, l32_7, l32_8, l32_9, l32_10, l32_11, l32_12, l32_13, l32_14, l32_15, l32_16, l32_20, l32_24, l32_25, l32_26, l32_31, l32_32, l32_34, l32_35, l32_39, l32_40, l32_44, l32_45, l32_46, l32_47, l32_48, l32_49, l32_57, l32_58, l32_59, l32_63, l32_64, l32_85, l32_90, l32_97, l32_99, l32_100, l32_110, l32_112, l32_122, l32_124, l32_125, l32_255, l32_680, l32_699, l32_700, l32_999, l32_2500, l32_99999, l32_100000, l32_1000000, if_true, if_false, ite_true, ite_false, ce_nm, Option.bind, if_pos, if_neg]) ?_
  by_cases h1 : hp u = 1
  · refine Ev.pos (by simp (disch := omega) only [up_s, up_k, up_j, mm_neg, mm_def, ni_lt, ni_le, ni_eq, ni_mm, mm_ni, ni_lt_mm, ni_le_mm, mm_lt_ni, mm_le_ni, mm_lt_mm, mm_le_mm, ni_cl, ni_in, nI_add, ni_mul, ni_div, ni_rem, ni_rem2, fr_sub, fr_mm, fr_ge0, fr_lt0, fr_inj, l32_0, l32_1, l32_2, l32_3, l32_4, l32_5, l32_6, l32_7, l32_8, l32_9, l32_10, l32_11, l32_12, l32_13, l32_14, l32_15, l32_16, l32_20, l32_24, l32_25, l32_26, l32_31, l32_32, l32_34, l32_35, l32_39, l32_40, l32_44, l32_45, l32_46, l32_47, l32_48, l32_49, l32_57, l32_58, l32_59, l32_63, l32_64, l32_85, l32_90, l32_97, l32_99, l32_100, l32_110, l32_112, l32_122, l32_124, l32_125, l32_255, l32_680, l32_699, l32_700, l32_999, l32_2500, l32_99999, l32_100000, l32_1000000, if_true, if_false, ite_true, ite_false, ce_nm, Option.bind, if_pos, if_neg, hp1, h1]; decide) ?_
    rw [if_pos h1] at loop
    exact Ev.bind loop (fun r hr => Ev.some hr)
  · have fw3 : fr (hp u) = nI (hp u - 1) := fr_p (by omega)
    refine Ev.neg (by simp (disch := omega) only [up_s, up_k, up_j, mm_neg, mm_def, ni_lt, ni_le, ni_eq, ni_mm, mm_ni, ni_lt_mm, ni_le_mm, mm_lt_ni, mm_le_ni, mm_lt_mm, mm_le_mm, ni_cl, ni_in, nI_add, ni_mul, ni_div, ni_rem, ni_rem2, fr_sub, fr_mm, fr_ge0, fr_lt0, fr_inj, l32_0, l32_1, l32_2, l32_3, l32_4, l32_5, l32_6, l32_7, l32_8, l32_9, l32_10, l32_11, l32_12, l32_13, l32_14, l32_15, l32_16, l32_20, l32_24, l32_25, l32_26, l32_31, l32_32, l32_34, l32_35, l32_39, l32_40, l32_44, l32_45, l32_46, l32_47, l32_48, l32_49, l32_57, l32_58, l32_59, l32_63, l32_64, l32_85, l32_90, l32_97, l32_99, l32_100, l32_110, l32_112, l32_122, l32_124, l32_125, l32_255, l32_680, l32_699, l32_700, l32_999, l32_2500, l32_99999, l32_100000, l32_1000000, if_true, if_false, ite_true, ite_false, ce_nm, Option.bind, if_pos, if_neg, hp1, fw3]; omega) ?_
    rw [if_neg h1] at loop
    rw [cn.1]
    exact Ev.bind loop (fun r hr => Ev.some hr)

/-- what a walk has found: labels hp (1 + cables) and dy (1 + delay), 0 where it does not come to -/
def Bf (m o : Nat → Nat) (a : Nat) (hp dy : Nat → Nat) : Prop := hp a = 1 ∧ dy a = 1 ∧ (∀ v, v < 10 → (hp v ≠ 0 ↔ Cn o a v)) ∧ (∀ v, v < 10 → hp v ≤ 10 ∧ dy v ≤ 20 * hp v ∧ (hp v ≠ 0 → dy v ≠ 0)) ∧ ∀ w, w < 10 → hp w ≠ 0 → w ≠ a → ∃ e, e < 40 ∧ o e ≠ 0 ∧ (o e - 1) / 4 = w ∧ hp (e / 4) ≠ 0 ∧ hp w = hp (e / 4) + 1 ∧ dy w = dy (e / 4) + (if hp (e / 4) = 1 then 0 else m 1) + m (85 + e)
/-- Walk.start -/
theorem x_start {m : Nat → Nat} {k a lx F : Nat} {h : Hp} (hk : ce_isNet k) (ok : OkG m) (cn : CNw h k m) (hlx : lx ≤ 40) (ha : a < m 2) (hF : 1000 ≤ F) :
    Ev (f10_start F k (nI a) (fr lx) h) (fun h' => Fw h h' ∧ ∃ s q hp dy, Bs h' s q hp dy ∧ Bf m (cu (og m) lx) a hp dy) := by
  obtain ⟨k1, k2, k3, k4, k5⟩ := id ok
  have ha10 : a < 10 := by omega
  have g : Gr (cu (og m) lx) := cu_gr k4 lx
  unfold f10_start
  refine Ev.bind (x_fill (n := 10) (by omega) (by omega)) (fun h1 hh1 => ?_)
  refine Ev.bind (x_fill (n := 10) (by omega) (by omega)) (fun h2 hh2 => Ev.nm ?_)
  obtain ⟨a1, a2⟩ := hh1
  obtain ⟨b1, b2⟩ := hh2
  have B0 : Bs (hp_up h2 40 0 0) 0 (fun _ => 0) (fun _ => 0) (fun _ => 0) := by
    refine ⟨up_s _ _ _ _, by omega, fun i hi => absurd hi (by omega), fun v hv => ⟨?_, ?_⟩, fun i j hi => absurd hi (by omega), fun v hv => ⟨fun z => absurd rfl z, fun z => ?_⟩, fun v hv => ⟨Nat.le_refl _, Nat.zero_le _, fun z => absurd rfl z⟩⟩
    · rw [up_k _ _ _ _ _ _ (by omega), b2 v hv]; rfl
    · rw [up_k _ _ _ _ _ _ (by omega), b1 42 (by omega), a2 v hv]; rfl
    · obtain ⟨i, i1, -⟩ := z
      omega
  have fw0 : Fw h (hp_up h2 40 0 0) := fun c c1 c2 c3 c4 => by rw [up_kk _ _ _ _ _ c1, b1 c c4, a1 c c3]
  have er := x_reach (F := F) (d := 0) (c := 0) B0 ha10
  rw [if_pos ⟨rfl, by omega⟩] at er
  refine Ev.bind (Ev.of (P := fun h3 => h3 = _) er rfl) (fun h3 hh3 => ?_)
  subst hh3
  have B1 := Bs.push (d := 0) (c := 0) B0 ha10 rfl (by omega) (by omega) (by omega)
  refine Ev.bind (P := fun h' => Fw h h' ∧ ∃ s q hp dy, Bs h' s q hp dy ∧ Bf m (cu (og m) lx) a hp dy) ?_ (fun r hr => Ev.some hr)
  refine Ev.it (I := fun i st => st.1 = nI i ∧ Fw h st.2 ∧ ∃ s q hp dy, Bi m (cu (og m) lx) a st.2 s q hp dy ∧ i ≤ s ∧ ∀ j, j < i → ∀ e, e < 40 → e / 4 = q j → cu (og m) lx e ≠ 0 → hp ((cu (og m) lx e - 1) / 4) ≠ 0) _ 10 ?_ F 0 _ (by omega) (by omega) ⟨rfl, fw0.trans (push_fw _ _ _ _ _ _ _), 1, _, _, _, ⟨B1, by omega, un_s _ _ _, un_s _ _ _, ?_, ?_⟩, by omega, fun j hj => absurd hj (by omega)⟩
  · rintro i ⟨x, h4⟩ hi ⟨rfl, f4, s, q, hp, dy, B4, hs, cl⟩
    have f4 : Fw h h4 := f4
    have B4 : Bi m (cu (og m) lx) a h4 s q hp dy := B4
    show Ev (f10_start_b31 F k (fr lx) (nI i) h4) _
    obtain ⟨c1, c2, c3, c4, c5, c6, c7⟩ := B4.1
    unfold f10_start_b31
    by_cases hin : s ≤ i
    · refine Ev.pos (by simp (disch := omega) only [up_s, up_k, up_j, mm_neg, mm_def, ni_lt, ni_le, ni_eq, ni_mm, mm_ni, ni_lt_mm, ni_le_mm, mm_lt_ni, mm_le_ni, mm_lt_mm, mm_le_mm, ni_cl, ni_in, nI_add, ni_mul, ni_div, ni_rem, ni_rem2, fr_sub, fr_mm, fr_ge0, fr_lt0, fr_inj, l32_0, l32_1, l32_2, l32_3, l32_4, l32_5, l32_6, l32_7, l32_8, l32_9, l32_10, l32_11, l32_12, l32_13, l32_14, l32_15, l32_16, l32_20, l32_24, l32_25, l32_26, l32_31, l32_32, l32_34, l32_35, l32_39, l32_40, l32_44, l32_45, l32_46, l32_47, l32_48, l32_49, l32_57, l32_58, l32_59, l32_63, l32_64, l32_85, l32_90, l32_97, l32_99, l32_100, l32_110, l32_112, l32_122, l32_124, l32_125, l32_255, l32_680, l32_699, l32_700, l32_999, l32_2500, l32_99999, l32_100000, l32_1000000, if_true, if_false, ite_true, ite_false, ce_nm, Option.bind, if_pos, if_neg, c1]; exact hin) (Ev.some ⟨f4, s, q, hp, dy, B4.1, B4.2.2.1, B4.2.2.2.1, fun v hv => ⟨B4.2.2.2.2.1 v hv, fun z => ?_⟩, fun v hv => ⟨by have := c7 v hv; omega, (c7 v hv).2⟩, B4.2.2.2.2.2⟩)
      have := z (fun x => x < 10 ∧ hp x ≠ 0) (fun u w huw hu => by
        obtain ⟨e, e1, e2, e3, e4⟩ := huw
        obtain ⟨j, j1, j2⟩ := (c6 u hu.1).mp hu.2
        obtain ⟨g1, g2, g3⟩ := g e e1 e3
        rw [← e4]
        exact ⟨by omega, cl j (by omega) e e1 (by omega) e3⟩) ⟨ha10, by rw [B4.2.2.1]; omega⟩
      exact this.2
    · refine Ev.neg (by simp (disch := omega) only [up_s, up_k, up_j, mm_neg, mm_def, ni_lt, ni_le, ni_eq, ni_mm, mm_ni, ni_lt_mm, ni_le_mm, mm_lt_ni, mm_le_ni, mm_lt_mm, mm_le_mm, ni_cl, ni_in, nI_add, ni_mul, ni_div, ni_rem, ni_rem2, fr_sub, fr_mm, fr_ge0, fr_lt0, fr_inj, l32_0, l32_1, l32_2, l32_3, l32_4, l32_5, l32_6, l32_7, l32_8, l32_9, l32_10, l32_11, l32_12, l32_13, l32_14, l32_15, l32_16, l32_20, l32_24, l32_25, l32_26, l32_31, l32_32, l32_34, l32_35, l32_39, l32_40, l32_44, l32_45, l32_46, l32_47, l32_48, l32_49, l32_57, l32_58, l32_59, l32_63, l32_64, l32_85, l32_90, l32_97, l32_99, l32_100, l32_110, l32_112, l32_122, l32_124, l32_125, l32_255, l32_680, l32_699, l32_700, l32_999, l32_2500, l32_99999, l32_100000, l32_1000000, if_true, if_false, ite_true, ite_false, ce_nm, Option.bind, if_pos, if_neg, c1]; exact hin) (Ev.neg (by simp (disch := omega) only [up_s, up_k, up_j, mm_neg, mm_def, ni_lt, ni_le, ni_eq, ni_mm, mm_ni, ni_lt_mm, ni_le_mm, mm_lt_ni, mm_le_ni, mm_lt_mm, mm_le_mm, ni_cl, ni_in, nI_add, ni_mul, ni_div, ni_rem, ni_rem2, fr_sub, fr_mm, fr_ge0, fr_lt0, fr_inj, l32_0, l32_1, l32_2, l32_3, l32_4, l32_5, l32_6, l32_7, l32_8, l32_9, l32_10, l32_11, l32_12, l32_13, l32_14, l32_15, l32_16, l32_20, l32_24, l32_25, l32_26, l32_31, l32_32, l32_34, l32_35, l32_39, l32_40, l32_44, l32_45, l32_46, l32_47, l32_48, l32_49, l32_57, l32_58, l32_59, l32_63, l32_64, l32_85, l32_90, l32_97, l32_99, l32_100, l32_110, l32_112, l32_122, l32_124, l32_125, l32_255, l32_680, l32_699, l32_700, l32_999, l32_2500, l32_99999, l32_100000, l32_1000000, if_true, if_false, ite_true, ite_false, ce_nm, Option.bind, if_pos, if_neg]; omega) (Ev.grd (by simp (disch := omega) only [up_s, up_k, up_j, mm_neg, mm_def, ni_lt, ni_le, ni_eq, ni_mm, mm_ni, ni_lt_mm, ni_le_mm, mm_lt_ni, mm_le_ni, mm_lt_mm, mm_le_mm, ni_cl, ni_in, nI_add, ni_mul, ni_div, ni_rem, ni_rem2, fr_sub, fr_mm, fr_ge0, fr_lt0, fr_inj, l32_0, l32_1, l32_2, l32_3, l32_4, l32_5, l32_6, l32_7, l32_8, l32_9, l32_10, l32_11, l32_12, l32_13, l32_14, l32_15, l32_16, l32_20, l32_24, l32_25, l32_26, l32_31, l32_32, l32_34, l32_35, l32_39, l32_40, l32_44, l32_45, l32_46, l32_47, l32_48, l32_49, l32_57, l32_58, l32_59, l32_63, l32_64, l32_85, l32_90, l32_97, l32_99, l32_100, l32_110, l32_112, l32_122, l32_124, l32_125, l32_255, l32_680, l32_699, l32_700, l32_999, l32_2500, l32_99999, l32_100000, l32_1000000, if_true, if_false, ite_true, ite_false, ce_nm, Option.bind, if_pos, if_neg]) ?_))
      obtain ⟨d1, d2⟩ := c3 i (by omega)
      have hqr : hp (q i) ≠ 0 := (c6 (q i) d2).mpr ⟨i, by omega, rfl⟩
      have hq2 : q i < m 2 := by
        by_cases z : q i = a
        · omega
        · obtain ⟨e, e1, e2, e3, e4, -⟩ := B4.2.2.2.2.2 (q i) d2 hqr z
          obtain ⟨y1, y2, y3, y4⟩ := cu_ne e2
          obtain ⟨g1, g2, g3⟩ := k4 e e1 y1
          have := (k5 (og m e - 1) (by omega) (by omega)).1
          rw [y4] at e3
          omega
      have sp := x_spread (F := F) hk ok (cn.fw hk f4) rfl hlx ha10 B4 hq2 hqr hF
      rw [ni_cl (by omega), d1]
      refine Ev.bind sp (fun h5 hh5 => Ev.some ?_)
      obtain ⟨f5, s5, q5, hp5, dy5, B5, x5, cl5⟩ := hh5
      refine ⟨by omega, nI_1 i, f4.trans f5, s5, q5, hp5, dy5, B5, by have := x5.1; omega, fun j hj e e1 e2 e3 => ?_⟩
      by_cases z : j = i
      · subst z
        rw [x5.2.1 j (by omega)] at e2
        exact cl5 e e1 e2 e3
      · rw [x5.2.1 j (by omega)] at e2
        have y := cl j (by omega) e e1 e2 e3
        obtain ⟨g1, g2, g3⟩ := g e e1 e3
        rw [(x5.2.2 _ (by omega) y).1]
        exact y
  · intro v hv hv0
    by_cases z : v = a
    · rw [z]; exact Cn.refl _ _
    · rw [un_n z] at hv0; exact absurd rfl hv0
  · intro w hw hw0 hwa
    rw [un_n hwa] at hw0
    exact absurd rfl hw0
