-- the longest way of a bus, in both
theorem ev_bs {α β : Type} {r : α} {f : α → Option β} {Q : β → Prop} (k : Ev (f r) Q) : Ev (Option.bind (some r) f) Q := k
/-- the class's net, its buses -/
def CS (h : Hp) (k : Nat) (m : Nat → Nat) : Prop := h 0 2 = nI k ∧ ce_isNet k ∧ CNw h k m ∧ CB h m
theorem CS.fr {lo hi : Nat} {h h' : Hp} {k : Nat} {m : Nat → Nat} (c : CS h k m) (f : Fr lo hi h h') (hl : 48 ≤ lo ∨ (40 ≤ lo ∧ hi ≤ 43)) : CS h' k m := by
  obtain ⟨c1, c2, c3, c4, c5, c6, c7⟩ := c
  refine ⟨by rw [f 0 (by omega)]; exact c1, c2, c3.fr c2 f (by omega), ?_, ?_, ?_, ?_⟩
  · rw [f 44 (by omega)]; exact c4
  · rw [f 44 (by omega)]; exact c5
  · rw [f 45 (by omega)]; exact c6
  · rw [f 46 (by omega), f 47 (by omega)]; exact c7
theorem isNet_nI {k : Nat} (hk : ce_isNet k) : (nI k).toNatClampNeg = k := by rcases hk with rfl | rfl <;> decide
theorem x_areOne {m : Nat → Nat} {k v w F : Nat} {h : Hp} (ok : OkG m) (c : CS h k m) (hv : v < m 2) (hw : w < m 2) : f2_areOne F (nI v) (nI w) h = some (if bo (Cn (og m) v w) = true then nI 1 else nI 0, h) := by
  have h2 := ok.2.1
  have e1 : h 45 v = nI (lst (og m) v) := by rw [c.2.2.2.2.2.1 v (by omega), if_pos (bo_p hv)]
  have e2 : h 45 w = nI (lst (og m) w) := by rw [c.2.2.2.2.2.1 w (by omega), if_pos (bo_p hw)]
  have l1 := (lst_cn (o := og m) (v := v) (by omega)).2
  have l2 := (lst_cn (o := og m) (v := w) (by omega)).2
  unfold f2_areOne
  have i1 := lst_iff ok.2.2.2.1 (v := v) (w := w) (by omega) (by omega)
  by_cases z : Cn (og m) v w
  · have z2 := i1.mpr z
    rw [bo_p z]
    simp (disch := omega) only [up_s, up_k, up_j, mm_neg, mm_def, ni_lt, ni_le, ni_eq, ni_mm, mm_ni, ni_lt_mm, ni_le_mm, mm_lt_ni, mm_le_ni, mm_lt_mm, mm_le_mm, ni_cl, ni_in, nI_add, ni_mul, ni_div, ni_rem, ni_rem2, fr_sub, fr_mm, fr_ge0, fr_lt0, fr_inj, l32_0, l32_1, l32_2, l32_3, l32_4, l32_5, l32_6, l32_7, l32_8, l32_9, l32_10, l32_11, l32_12, l32_13, l32_14, l32_15, l32_16, l32_20, l32_24, l32_25, l32_26, l32_31, l32_32, l32_34, l32_35, l32_39, l32_40, l32_44, l32_45, l32_46, l32_47, l32_48, l32_49, l32_57, l32_58, l32_59, l32_63, l32_64, l32_85, l32_90, l32_97, l32_99, l32_100, l32_110, l32_112, l32_122, l32_124, l32_125, l32_255, l32_680, l32_699, l32_700, l32_999, l32_2500, l32_99999, l32_100000, l32_1000000, if_true, if_false, ite_true, ite_false, ce_nm, Option.bind, if_pos, if_neg, e1, e2, z2]
  · have z2 : ¬ lst (og m) v = lst (og m) w := fun y => z (i1.mp y)
    rw [bo_f z]
    simp (disch := omega) only [up_s, up_k, up_j, mm_neg, mm_def, ni_lt, ni_le, ni_eq, ni_mm, mm_ni, ni_lt_mm, ni_le_mm, mm_lt_ni, mm_le_ni, mm_lt_mm, mm_le_mm, ni_cl, ni_in, nI_add, ni_mul, ni_div, ni_rem, ni_rem2, fr_sub, fr_mm, fr_ge0, fr_lt0, fr_inj, l32_0, l32_1, l32_2, l32_3, l32_4, l32_5, l32_6, l32_7, l32_8, l32_9, l32_10, l32_11, l32_12, l32_13, l32_14, l32_15, l32_16, l32_20, l32_24, l32_25, l32_26, l32_31, l32_32, l32_34, l32_35, l32_39, l32_40, l32_44, l32_45, l32_46, l32_47, l32_48, l32_49, l32_57, l32_58, l32_59, l32_63, l32_64, l32_85, l32_90, l32_97, l32_99, l32_100, l32_110, l32_112, l32_122, l32_124, l32_125, l32_255, l32_680, l32_699, l32_700, l32_999, l32_2500, l32_99999, l32_100000, l32_1000000, if_true, if_false, ite_true, ite_false, ce_nm, Option.bind, if_pos, if_neg, e1, e2, z2, Bool.false_eq_true]
theorem mx_if {f : Nat → Nat} {p : Nat → Bool} {n N : Nat} (hN : n ≤ N) (h : ∀ i, n ≤ i → i < N → p i = false) : mx (fun w => if p w = true then f w else 0) N = mx (fun w => if p w = true then f w else 0) n := by
  apply Nat.le_antisymm
  · refine mx_le (fun i hi => ?_)
    by_cases z : i < n
    · exact le_mx (f := fun w => if p w = true then f w else 0) z
    · rw [h i (by omega) hi]; exact Nat.zero_le _
  · exact mx_le (fun i hi => le_mx (f := fun w => if p w = true then f w else 0) (n := N) (i := i) (by omega))
theorem tr_cn {o : Nat → Nat} (g : Gr o) {a w : Nat} (h : Cn o a w) (tr : ¬ sz o a ≤ cb o a) : ¬ sz o w ≤ cb o w := by
  rw [← sz_eq g h, ← cb_eq g h]; exact tr
/-- CableElection.longestWithout -/
theorem x_clong {m E : Nat → Nat} {k a lx F : Nat} {h : Hp} (ok : OkG m) (c : CS h k m) (ha : a < m 2) (hlx : lx ≤ 40) (hE : ∀ w, w < 10 → Cn (og m) a w → ∀ hp dy, Bf m (cu (og m) lx) w hp dy → ec dy = E w) (hF : 1000 ≤ F) : Ev (f11_longestWithout F (nI a) (fr lx) h) (fun r => r.1 = nI (mx (fun w => if bo (Cn (og m) a w) = true then E w else 0) 10) ∧ Fr 40 43 h r.2) := by
  have h2 := ok.2.1
  have hE2 : ∀ w, w < 10 → (if bo (Cn (og m) a w) = true then E w else 0) ≤ 200 := by
    intro w hw
    by_cases z : Cn (og m) a w
    · rw [if_pos (bo_p z)]
      obtain ⟨hp, dy, bf⟩ := bf_ex ok (cn_lt ok z ha) hlx
      rw [← hE w hw z hp dy bf]
      exact ec_le bf
    · rw [if_neg (by rw [bo_t]; exact z)]; omega
  unfold f11_longestWithout
  refine Ev.bind (P := fun o => o.1 = nI (mx (fun w => if bo (Cn (og m) a w) = true then E w else 0) (m 2)) ∧ Fr 40 43 h o.2) ?_ (fun o ho => Ev.some ⟨?_, ho.2⟩)
  · refine Ev.it (I := fun i st => st.1 = nI (mx (fun w => if bo (Cn (og m) a w) = true then E w else 0) i) ∧ st.2.1 = nI i ∧ Fr 40 43 h st.2.2) _ (m 2) ?_ F 0 _ (by omega) (by omega) ⟨rfl, rfl, Fr.refl _ _ _⟩
    rintro i ⟨x3, x4, h1⟩ hi hI
    obtain ⟨rfl, rfl, f1⟩ : x3 = nI (mx (fun w => if bo (Cn (og m) a w) = true then E w else 0) i) ∧ x4 = nI i ∧ Fr 40 43 h h1 := hI
    show Ev (f11_longestWithout_b5 F (nI a) (fr lx) (nI (mx (fun w => if bo (Cn (og m) a w) = true then E w else 0) i)) (nI i) h1) _
    have c1 := c.fr f1 (by omega)
    unfold f11_longestWithout_b5
    refine Ev.nm ?_
    rw [c1.1, isNet_nI c1.2.1]
    refine Ev.grd c1.2.1 ?_
    have c3 := c1.2.2.1.2.1
    by_cases hin : m 2 ≤ i
    · refine Ev.pos (by simp (disch := omega) only [up_s, up_k, up_j, mm_neg, mm_def, ni_lt, ni_le, ni_eq, ni_mm, mm_ni, ni_lt_mm, ni_le_mm, mm_lt_ni, mm_le_ni, mm_lt_mm, mm_le_mm, ni_cl, ni_in, nI_add, ni_mul, ni_div, ni_rem, ni_rem2, fr_sub, fr_mm, fr_ge0, fr_lt0, fr_inj, l32_0, l32_1, l32_2, l32_3, l32_4, l32_5, l32_6, l32_7, l32_8, l32_9, l32_10, l32_11, l32_12, l32_13, l32_14, l32_15, l32_16, l32_20, l32_24, l32_25, l32_26, l32_31, l32_32, l32_34, l32_35, l32_39, l32_40, l32_44, l32_45, l32_46, l32_47, l32_48, l32_49, l32_57, l32_58, l32_59, l32_63, l32_64, l32_85, l32_90, l32_97, l32_99, l32_100, l32_110, l32_112, l32_122, l32_124, l32_125, l32_255, l32_680, l32_699, l32_700, l32_999, l32_2500, l32_99999, l32_100000, l32_1000000, if_true, if_false, ite_true, ite_false, ce_nm, Option.bind, if_pos, if_neg, c3]; exact hin) (Ev.some ?_)
      have : i = m 2 := by omega
      rw [this]
      exact ⟨rfl, f1⟩
    · refine Ev.neg (by simp (disch := omega) only [up_s, up_k, up_j, mm_neg, mm_def, ni_lt, ni_le, ni_eq, ni_mm, mm_ni, ni_lt_mm, ni_le_mm, mm_lt_ni, mm_le_ni, mm_lt_mm, mm_le_mm, ni_cl, ni_in, nI_add, ni_mul, ni_div, ni_rem, ni_rem2, fr_sub, fr_mm, fr_ge0, fr_lt0, fr_inj, l32_0, l32_1, l32_2, l32_3, l32_4, l32_5, l32_6, l32_7, l32_8, l32_9, l32_10, l32_11, l32_12, l32_13, l32_14, l32_15, l32_16, l32_20, l32_24, l32_25, l32_26, l32_31, l32_32, l32_34, l32_35, l32_39, l32_40, l32_44, l32_45, l32_46, l32_47, l32_48, l32_49, l32_57, l32_58, l32_59, l32_63, l32_64, l32_85, l32_90, l32_97, l32_99, l32_100, l32_110, l32_112, l32_122, l32_124, l32_125, l32_255, l32_680, l32_699, l32_700, l32_999, l32_2500, l32_99999, l32_100000, l32_1000000, if_true, if_false, ite_true, ite_false, ce_nm, Option.bind, if_pos, if_neg, c3]; exact hin) ?_
      rw [x_areOne ok c1 ha (by omega)]
      have l2 : mx (fun w => if bo (Cn (og m) a w) = true then E w else 0) i ≤ 200 := mx_le (fun j hj => hE2 j (by omega))
      have t : mx (fun w => if bo (Cn (og m) a w) = true then E w else 0) (i + 1) = max (mx (fun w => if bo (Cn (og m) a w) = true then E w else 0) i) (if bo (Cn (og m) a i) = true then E i else 0) := rfl
      have l3 := hE2 i (by omega)
      by_cases z : Cn (og m) a i
      · rw [if_pos (bo_p z)] at t l3 ⊢
        refine ev_bs ?_
        dsimp only
        refine Ev.neg (by decide) (Ev.nm ?_)
        rw [c1.1, isNet_nI c1.2.1]
        refine Ev.grd c1.2.1 (Ev.bind (x_start c1.2.1 ok c1.2.2.1 hlx (by omega) hF) (fun h3 hh3 => ?_))
        obtain ⟨f3, s, q, hp, dy, B, bf⟩ := hh3
        rw [x_cfar B bf hF, hE i (by omega) z hp dy bf]
        refine Ev.some ⟨by omega, ?_, nI_1 i, f1.trans f3.fr⟩
        show (if nI _ < nI _ then nI _ else nI _) = _
        rw [ni_max (by omega) (by omega), t]
      · rw [if_neg (by rw [bo_t]; exact z)] at t ⊢
        refine ev_bs ?_
        dsimp only
        refine Ev.pos rfl (Ev.some ⟨by omega, ?_, nI_1 i, f1⟩)
        rw [t, Nat.max_eq_left (by omega)]
  · rw [ho.1, mx_if (p := fun w => bo (Cn (og m) a w)) h2 (fun i h1 h3 => bo_f (fun z => by have := cn_lt ok z ha; omega))]
/-- the reference's longestOf -/
theorem x_mlong {m E : Nat → Nat} {a F : Nat} {h : Hp} (ok : OkG m) (c : MN h m) (ha : a < m 2) (tr : ¬ sz (og m) a ≤ cb (og m) a) (hE : ∀ w, w < 10 → Cn (og m) a w → ∀ hp dy, Bf m (og m) w hp dy → ec dy = E w) (hF : 1000 ≤ F) : Ev (f12_longestOf F (nI a) h) (fun r => r.1 = nI (mx (fun w => if bo (Cn (og m) a w) = true then E w else 0) 10) ∧ Fr 75 85 h r.2) := by
  have h2 := ok.2.1
  have g := ok.2.2.2.1
  have hex : ∀ w, Cn (og m) a w → ∃ hp dy, Bf m (og m) w hp dy := by
    intro w z
    obtain ⟨hp, dy, bf⟩ := bf_ex ok (cn_lt ok z ha) (lx := 0) (by omega)
    rw [cu0] at bf
    exact ⟨hp, dy, bf⟩
  have hE2 : ∀ w, w < 10 → (if bo (Cn (og m) a w) = true then E w else 0) ≤ 200 := by
    intro w hw
    by_cases z : Cn (og m) a w
    · rw [if_pos (bo_p z)]
      obtain ⟨hp, dy, bf⟩ := hex w z
      rw [← hE w hw z hp dy bf]
      exact ec_le bf
    · rw [if_neg (by rw [bo_t]; exact z)]; omega
  unfold f12_longestOf
  refine Ev.bind (x_laysBuses g c hF) (fun h0 hh0 => ?_)
  obtain ⟨f0, b0⟩ := hh0
  have f0' : Fr 75 85 h h0 := f0.wide (by omega) (by omega)
  have b0 : Lb h0 m := b0
  refine Ev.bind (P := fun o => o.1 = nI (mx (fun w => if bo (Cn (og m) a w) = true then E w else 0) (m 2)) ∧ Fr 75 85 h o.2) ?_ (fun o ho => Ev.some ⟨?_, ho.2⟩)
  · refine Ev.it (I := fun i st => st.1 = nI (mx (fun w => if bo (Cn (og m) a w) = true then E w else 0) i) ∧ st.2.1 = nI i ∧ Fr 75 85 h st.2.2 ∧ Lb st.2.2 m) _ (m 2) ?_ F 0 _ (by omega) (by omega) ⟨rfl, rfl, f0', b0⟩
    rintro i ⟨x3, x4, h1⟩ hi hI
    obtain ⟨rfl, rfl, f1, b1⟩ : x3 = nI (mx (fun w => if bo (Cn (og m) a w) = true then E w else 0) i) ∧ x4 = nI i ∧ Fr 75 85 h h1 ∧ Lb h1 m := hI
    show Ev (f12_longestOf_b8 F (nI a) (nI (mx (fun w => if bo (Cn (og m) a w) = true then E w else 0) i)) (nI i) h1) _
    have c1 := c.fr f1 (by omega)
    have c2 : h1 69 2 = nI (m 2) := c1 2 (by omega)
    unfold f12_longestOf_b8
    by_cases hin : m 2 ≤ i
    · refine Ev.pos (by simp (disch := omega) only [up_s, up_k, up_j, mm_neg, mm_def, ni_lt, ni_le, ni_eq, ni_mm, mm_ni, ni_lt_mm, ni_le_mm, mm_lt_ni, mm_le_ni, mm_lt_mm, mm_le_mm, ni_cl, ni_in, nI_add, ni_mul, ni_div, ni_rem, ni_rem2, fr_sub, fr_mm, fr_ge0, fr_lt0, fr_inj, l32_0, l32_1, l32_2, l32_3, l32_4, l32_5, l32_6, l32_7, l32_8, l32_9, l32_10, l32_11, l32_12, l32_13, l32_14, l32_15, l32_16, l32_20, l32_24, l32_25, l32_26, l32_31, l32_32, l32_34, l32_35, l32_39, l32_40, l32_44, l32_45, l32_46, l32_47, l32_48, l32_49, l32_57, l32_58, l32_59, l32_63, l32_64, l32_85, l32_90, l32_97, l32_99, l32_100, l32_110, l32_112, l32_122, l32_124, l32_125, l32_255, l32_680, l32_699, l32_700, l32_999, l32_2500, l32_99999, l32_100000, l32_1000000, if_true, if_false, ite_true, ite_false, ce_nm, Option.bind, if_pos, if_neg, c2]; exact hin) (Ev.some ?_)
      have : i = m 2 := by omega
      rw [this]
      exact ⟨rfl, f1⟩
    · refine Ev.neg (by simp (disch := omega) only [up_s, up_k, up_j, mm_neg, mm_def, ni_lt, ni_le, ni_eq, ni_mm, mm_ni, ni_lt_mm, ni_le_mm, mm_lt_ni, mm_le_ni, mm_lt_mm, mm_le_mm, ni_cl, ni_in, nI_add, ni_mul, ni_div, ni_rem, ni_rem2, fr_sub, fr_mm, fr_ge0, fr_lt0, fr_inj, l32_0, l32_1, l32_2, l32_3, l32_4, l32_5, l32_6, l32_7, l32_8, l32_9, l32_10, l32_11, l32_12, l32_13, l32_14, l32_15, l32_16, l32_20, l32_24, l32_25, l32_26, l32_31, l32_32, l32_34, l32_35, l32_39, l32_40, l32_44, l32_45, l32_46, l32_47, l32_48, l32_49, l32_57, l32_58, l32_59, l32_63, l32_64, l32_85, l32_90, l32_97, l32_99, l32_100, l32_110, l32_112, l32_122, l32_124, l32_125, l32_255, l32_680, l32_699, l32_700, l32_999, l32_2500, l32_99999, l32_100000, l32_1000000, if_true, if_false, ite_true, ite_false, ce_nm, Option.bind, if_pos, if_neg, c2]; exact hin) (Ev.grd (by simp (disch := omega) only [up_s, up_k, up_j, mm_neg, mm_def, ni_lt, ni_le, ni_eq, ni_mm, mm_ni, ni_lt_mm, ni_le_mm, mm_lt_ni, mm_le_ni, mm_lt_mm, mm_le_mm, ni_cl, ni_in, nI_add, ni_mul, ni_div, ni_rem, ni_rem2, fr_sub, fr_mm, fr_ge0, fr_lt0, fr_inj, l32_0, l32_1, l32_2, l32_3, l32_4, l32_5, l32_6, l32_7, l32_8, l32_9, l32_10, l32_11, l32_12, l32_13, l32_14, l32_15, l32_16, l32_20, l32_24, l32_25, l32_26, l32_31, l32_32, l32_34, l32_35, l32_39, l32_40, l32_44, l32_45, l32_46, l32_47, l32_48, l32_49, l32_57, l32_58, l32_59, l32_63, l32_64, l32_85, l32_90, l32_97, l32_99, l32_100, l32_110, l32_112, l32_122, l32_124, l32_125, l32_255, l32_680, l32_699, l32_700, l32_999, l32_2500, l32_99999, l32_100000, l32_1000000, if_true, if_false, ite_true, ite_false, ce_nm, Option.bind, if_pos, if_neg]) (Ev.grd (by simp (disch := omega) only [up_s, up_k, up_j, mm_neg, mm_def, ni_lt, ni_le, ni_eq, ni_mm, mm_ni, ni_lt_mm, ni_le_mm, mm_lt_ni, mm_le_ni, mm_lt_mm, mm_le_mm, ni_cl, ni_in, nI_add, ni_mul, ni_div, ni_rem, ni_rem2, fr_sub, fr_mm, fr_ge0, fr_lt0, fr_inj, l32_0, l32_1, l32_2, l32_3, l32_4, l32_5, l32_6, l32_7, l32_8, l32_9, l32_10, l32_11, l32_12, l32_13, l32_14, l32_15, l32_16, l32_20, l32_24, l32_25, l32_26, l32_31, l32_32, l32_34, l32_35, l32_39, l32_40, l32_44, l32_45, l32_46, l32_47, l32_48, l32_49, l32_57, l32_58, l32_59, l32_63, l32_64, l32_85, l32_90, l32_97, l32_99, l32_100, l32_110, l32_112, l32_122, l32_124, l32_125, l32_255, l32_680, l32_699, l32_700, l32_999, l32_2500, l32_99999, l32_100000, l32_1000000, if_true, if_false, ite_true, ite_false, ce_nm, Option.bind, if_pos, if_neg]) ?_))
      have e1 := b1 i (by omega)
      have e2 := b1 a (by omega)
      have q1 := (lst_cn (o := og m) (v := i) (by omega)).2
      have q2 := (lst_cn (o := og m) (v := a) (by omega)).2
      have iff1 := lst_iff g (v := i) (w := a) (by omega) (by omega)
      have l2 : mx (fun w => if bo (Cn (og m) a w) = true then E w else 0) i ≤ 200 := mx_le (fun j hj => hE2 j (by omega))
      have t : mx (fun w => if bo (Cn (og m) a w) = true then E w else 0) (i + 1) = max (mx (fun w => if bo (Cn (og m) a w) = true then E w else 0) i) (if bo (Cn (og m) a i) = true then E i else 0) := rfl
      have l3 := hE2 i (by omega)
      by_cases z : Cn (og m) a i
      · rw [if_pos (bo_p z)] at t l3
        refine Ev.pos (by simp (disch := omega) only [up_s, up_k, up_j, mm_neg, mm_def, ni_lt, ni_le, ni_eq, ni_mm, mm_ni, ni_lt_mm, ni_le_mm, mm_lt_ni, mm_le_ni, mm_lt_mm, mm_le_mm, ni_cl, ni_in, nI_add, ni_mul, ni_div, ni_rem, ni_rem2, fr_sub, fr_mm, fr_ge0, fr_lt0, fr_inj, l32_0, l32_1, l32_2, l32_3, l32_4, l32_5, l32_6, l32_7, l32_8, l32_9, l32_10, l32_11, l32_12, l32_13, l32_14, l32_15, l32_16, l32_20, l32_24, l32_25, l32_26, l32_31, l32_32, l32_34, l32_35, l32_39, l32_40, l32_44, l32_45, l32_46, l32_47, l32_48, l32_49, l32_57, l32_58, l32_59, l32_63, l32_64, l32_85, l32_90, l32_97, l32_99, l32_100, l32_110, l32_112, l32_122, l32_124, l32_125, l32_255, l32_680, l32_699, l32_700, l32_999, l32_2500, l32_99999, l32_100000, l32_1000000, if_true, if_false, ite_true, ite_false, ce_nm, Option.bind, if_pos, if_neg, e1, e2]; exact iff1.mpr (z.symm g)) ?_
        obtain ⟨hp, dy, bf⟩ := hex i z
        refine Ev.bind (x_mfar ok c1 (by omega) bf (tr_cn g z tr) hF) (fun r hr => Ev.some ?_)
        obtain ⟨r1, f3⟩ := hr
        refine ⟨by omega, ?_, nI_1 i, f1.trans (f3.wide (by omega) (by omega)), fun v hv => ?_⟩
        · show (if nI _ < r.1 then r.1 else nI _) = _
          rw [r1, hE i (by omega) z hp dy bf, ni_max (by omega) (by omega), t]
        · rw [f3 75 (by omega)]; exact b1 v hv
      · rw [if_neg (by rw [bo_t]; exact z)] at t
        refine Ev.neg (by simp (disch := omega) only [up_s, up_k, up_j, mm_neg, mm_def, ni_lt, ni_le, ni_eq, ni_mm, mm_ni, ni_lt_mm, ni_le_mm, mm_lt_ni, mm_le_ni, mm_lt_mm, mm_le_mm, ni_cl, ni_in, nI_add, ni_mul, ni_div, ni_rem, ni_rem2, fr_sub, fr_mm, fr_ge0, fr_lt0, fr_inj, l32_0, l32_1, l32_2, l32_3, l32_4, l32_5, l32_6, l32_7, l32_8, l32_9, l32_10, l32_11, l32_12, l32_13, l32_14, l32_15, l32_16, l32_20, l32_24, l32_25, l32_26, l32_31, l32_32, l32_34, l32_35, l32_39, l32_40, l32_44, l32_45, l32_46, l32_47, l32_48, l32_49, l32_57, l32_58, l32_59, l32_63, l32_64, l32_85, l32_90, l32_97, l32_99, l32_100, l32_110, l32_112, l32_122, l32_124, l32_125, l32_255, l32_680, l32_699, l32_700, l32_999, l32_2500, l32_99999, l32_100000, l32_1000000, if_true, if_false, ite_true, ite_false, ce_nm, Option.bind, if_pos, if_neg, e1, e2]; exact fun y => z ((iff1.mp y).symm g)) (Ev.some ⟨by omega, ?_, nI_1 i, f1, b1⟩)
        rw [t, Nat.max_eq_left (by omega)]
  · rw [ho.1, mx_if (p := fun w => bo (Cn (og m) a w)) h2 (fun i h1 h3 => bo_f (fun z => by have := cn_lt ok z ha; omega))]
