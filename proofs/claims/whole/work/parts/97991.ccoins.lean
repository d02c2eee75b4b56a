-- the class reads coins
noncomputable def okC (t : Nat → Nat) (y : Tok) : Bool := bo (y.2.1 - y.1 ≤ 8 ∧ ∀ i, i < y.2.1 - y.1 → t (y.1 + i) ≤ 49)
noncomputable def pQ (t : Nat → Nat) (T : Nat) (x : Tok) : Rs Tok := if bo (isW t 6 x) = true then (if (tn t T x.2.1).2.2 = 2 then (if okC t (tn t T x.2.1) = true then .inr (tn t T (tn t T x.2.1).2.1) else .inl (2, (tn t T x.2.1).1)) else .inl (1, (tn t T x.2.1).1)) else .inr x
def dg (t : Nat → Nat) (y : Tok) : Nat → Nat := fun i => t (y.1 + i) - 48
theorem x_areCoins {T F : Nat} {t : Nat → Nat} {h : Hp} {y : Tok} (c : CP h T t y) (hF : 1000 ≤ F) : f8_areCoinsHere F h = some (if okC t y = true then nI 1 else nI 0, h) := by
  obtain ⟨s, e, k⟩ := y
  obtain ⟨tc, ⟨l1, l2, l3⟩, fine, ⟨o1, o2, o3, o4⟩⟩ := c
  dsimp only at l1 l2 l3 o1 o2 o3 o4
  have hT := tc.1
  refine Ev.eq ?_
  unfold f8_areCoinsHere
  by_cases le : e - s ≤ 8
  · refine Ev.pos (by rw [l1, l2, ni_sub o1]; simp (disch := omega) only [up_s, up_k, up_j, mm_neg, mm_def, ni_lt, ni_le, ni_eq, ni_mm, mm_ni, ni_lt_mm, ni_le_mm, mm_lt_ni, mm_le_ni, mm_lt_mm, mm_le_mm, ni_cl, ni_in, nI_add, ni_mul, ni_div, ni_rem, ni_rem2, fr_sub, fr_mm, fr_ge0, fr_lt0, fr_inj, l32_0, l32_1, l32_2, l32_3, l32_4, l32_5, l32_6, l32_7, l32_8, l32_9, l32_10, l32_11, l32_12, l32_13, l32_14, l32_15, l32_16, l32_20, l32_24, l32_25, l32_26, l32_31, l32_32, l32_34, l32_35, l32_39, l32_40, l32_44, l32_45, l32_46, l32_47, l32_48, l32_49, l32_57, l32_58, l32_59, l32_63, l32_64, l32_85, l32_90, l32_97, l32_99, l32_100, l32_110, l32_112, l32_122, l32_124, l32_125, l32_255, l32_680, l32_699, l32_700, l32_999, l32_2500, l32_99999, l32_100000, l32_1000000, if_true, if_false, ite_true, ite_false, ce_nm, Option.bind, if_pos, if_neg]; exact le) ?_
    rw [l1]
    refine Ev.bind (P := fun o => (o = .inr h ∧ okC t (s, e, k) = true) ∨ (o = .inl (0, h) ∧ okC t (s, e, k) = false)) ?_ (fun o ho => ?_)
    · refine Ev.it (I := fun i st => i ≤ e - s ∧ st = (nI (s + i), h) ∧ ∀ j, j < i → t (s + j) ≤ 49) _ (e - s) ?_ F 0 _ (by omega) (by omega) ⟨by omega, rfl, fun j hj => absurd hj (by omega)⟩
      rintro i st hi ⟨hie, rfl, hb⟩
      show Ev (f8_areCoinsHere_b21 F (nI (s + i)) h) _
      unfold f8_areCoinsHere_b21
      by_cases z : e ≤ s + i
      · exact Ev.pos (by rw [l2]; simp (disch := omega) only [up_s, up_k, up_j, mm_neg, mm_def, ni_lt, ni_le, ni_eq, ni_mm, mm_ni, ni_lt_mm, ni_le_mm, mm_lt_ni, mm_le_ni, mm_lt_mm, mm_le_mm, ni_cl, ni_in, nI_add, ni_mul, ni_div, ni_rem, ni_rem2, fr_sub, fr_mm, fr_ge0, fr_lt0, fr_inj, l32_0, l32_1, l32_2, l32_3, l32_4, l32_5, l32_6, l32_7, l32_8, l32_9, l32_10, l32_11, l32_12, l32_13, l32_14, l32_15, l32_16, l32_20, l32_24, l32_25, l32_26, l32_31, l32_32, l32_34, l32_35, l32_39, l32_40, l32_44, l32_45, l32_46, l32_47, l32_48, l32_49, l32_57, l32_58, l32_59, l32_63, l32_64, l32_85, l32_90, l32_97, l32_99, l32_100, l32_110, l32_112, l32_122, l32_124, l32_125, l32_255, l32_680, l32_699, l32_700, l32_999, l32_2500, l32_99999, l32_100000, l32_1000000, if_true, if_false, ite_true, ite_false, ce_nm, Option.bind, if_pos, if_neg]; exact z) (Ev.some (Or.inl ⟨rfl, bo_p ⟨le, fun j hj => hb j (by dsimp only at hj; omega)⟩⟩))
      · have tb := (tc.2.2 (s + i) (by omega)).1
        refine Ev.neg (by rw [l2]; simp (disch := omega) only [up_s, up_k, up_j, mm_neg, mm_def, ni_lt, ni_le, ni_eq, ni_mm, mm_ni, ni_lt_mm, ni_le_mm, mm_lt_ni, mm_le_ni, mm_lt_mm, mm_le_mm, ni_cl, ni_in, nI_add, ni_mul, ni_div, ni_rem, ni_rem2, fr_sub, fr_mm, fr_ge0, fr_lt0, fr_inj, l32_0, l32_1, l32_2, l32_3, l32_4, l32_5, l32_6, l32_7, l32_8, l32_9, l32_10, l32_11, l32_12, l32_13, l32_14, l32_15, l32_16, l32_20, l32_24, l32_25, l32_26, l32_31, l32_32, l32_34, l32_35, l32_39, l32_40, l32_44, l32_45, l32_46, l32_47, l32_48, l32_49, l32_57, l32_58, l32_59, l32_63, l32_64, l32_85, l32_90, l32_97, l32_99, l32_100, l32_110, l32_112, l32_122, l32_124, l32_125, l32_255, l32_680, l32_699, l32_700, l32_999, l32_2500, l32_99999, l32_100000, l32_1000000, if_true, if_false, ite_true, ite_false, ce_nm, Option.bind, if_pos, if_neg]; exact z) ?_
        rw [x_byteAt tc _ (by omega), if_pos (by omega)]
        refine ev_bs ?_
        dsimp only
        by_cases w : t (s + i) ≤ 49
        · refine Ev.pos (by simp (disch := omega) only [up_s, up_k, up_j, mm_neg, mm_def, ni_lt, ni_le, ni_eq, ni_mm, mm_ni, ni_lt_mm, ni_le_mm, mm_lt_ni, mm_le_ni, mm_lt_mm, mm_le_mm, ni_cl, ni_in, nI_add, ni_mul, ni_div, ni_rem, ni_rem2, fr_sub, fr_mm, fr_ge0, fr_lt0, fr_inj, l32_0, l32_1, l32_2, l32_3, l32_4, l32_5, l32_6, l32_7, l32_8, l32_9, l32_10, l32_11, l32_12, l32_13, l32_14, l32_15, l32_16, l32_20, l32_24, l32_25, l32_26, l32_31, l32_32, l32_34, l32_35, l32_39, l32_40, l32_44, l32_45, l32_46, l32_47, l32_48, l32_49, l32_57, l32_58, l32_59, l32_63, l32_64, l32_85, l32_90, l32_97, l32_99, l32_100, l32_110, l32_112, l32_122, l32_124, l32_125, l32_255, l32_680, l32_699, l32_700, l32_999, l32_2500, l32_99999, l32_100000, l32_1000000, if_true, if_false, ite_true, ite_false, ce_nm, Option.bind, if_pos, if_neg]; exact w) (Ev.some ⟨by omega, by omega, by rw [show nI (s + i) + 1 = nI (s + (i + 1)) from nI_1 _], fun j hj => ?_⟩)
          by_cases jj : j = i
          · rw [jj]; exact w
          · exact hb j (by omega)
        · exact Ev.neg (by simp (disch := omega) only [up_s, up_k, up_j, mm_neg, mm_def, ni_lt, ni_le, ni_eq, ni_mm, mm_ni, ni_lt_mm, ni_le_mm, mm_lt_ni, mm_le_ni, mm_lt_mm, mm_le_mm, ni_cl, ni_in, nI_add, ni_mul, ni_div, ni_rem, ni_rem2, fr_sub, fr_mm, fr_ge0, fr_lt0, fr_inj, l32_0, l32_1, l32_2, l32_3, l32_4, l32_5, l32_6, l32_7, l32_8, l32_9, l32_10, l32_11, l32_12, l32_13, l32_14, l32_15, l32_16, l32_20, l32_24, l32_25, l32_26, l32_31, l32_32, l32_34, l32_35, l32_39, l32_40, l32_44, l32_45, l32_46, l32_47, l32_48, l32_49, l32_57, l32_58, l32_59, l32_63, l32_64, l32_85, l32_90, l32_97, l32_99, l32_100, l32_110, l32_112, l32_122, l32_124, l32_125, l32_255, l32_680, l32_699, l32_700, l32_999, l32_2500, l32_99999, l32_100000, l32_1000000, if_true, if_false, ite_true, ite_false, ce_nm, Option.bind, if_pos, if_neg]; exact w) (Ev.some (Or.inr ⟨rfl, bo_f (fun q => w (q.2 i (by dsimp only; omega)))⟩))
    · rcases ho with ⟨rfl, q⟩ | ⟨rfl, q⟩
      · refine Ev.some ?_
        rw [q]; rfl
      · refine Ev.some ?_
        rw [q]; rfl
  · refine Ev.neg (by rw [l1, l2, ni_sub o1]; simp (disch := omega) only [up_s, up_k, up_j, mm_neg, mm_def, ni_lt, ni_le, ni_eq, ni_mm, mm_ni, ni_lt_mm, ni_le_mm, mm_lt_ni, mm_le_ni, mm_lt_mm, mm_le_mm, ni_cl, ni_in, nI_add, ni_mul, ni_div, ni_rem, ni_rem2, fr_sub, fr_mm, fr_ge0, fr_lt0, fr_inj, l32_0, l32_1, l32_2, l32_3, l32_4, l32_5, l32_6, l32_7, l32_8, l32_9, l32_10, l32_11, l32_12, l32_13, l32_14, l32_15, l32_16, l32_20, l32_24, l32_25, l32_26, l32_31, l32_32, l32_34, l32_35, l32_39, l32_40, l32_44, l32_45, l32_46, l32_47, l32_48, l32_49, l32_57, l32_58, l32_59, l32_63, l32_64, l32_85, l32_90, l32_97, l32_99, l32_100, l32_110, l32_112, l32_122, l32_124, l32_125, l32_255, l32_680, l32_699, l32_700, l32_999, l32_2500, l32_99999, l32_100000, l32_1000000, if_true, if_false, ite_true, ite_false, ce_nm, Option.bind, if_pos, if_neg]; exact le) (Ev.some ?_)
    rw [show okC t (s, e, k) = false from bo_f (fun q => le q.1)]
    rfl
theorem y_readCoins {T kn v F : Nat} {t : Nat → Nat} {h : Hp} {x : Tok} (c : CR h T t (.inr x)) (hkn : ce_isNet kn) (hv : v < 10) (hz : h (kn + 3) v = nI 0) (hF : 1000 ≤ F) : Ev (f8_readCoins F kn (nI v) h) (fun h' => (∀ q, q ≠ 1 → q ≠ kn + 3 → q ≠ kn + 4 → h' q = h q) ∧ (∀ u, u ≠ v → h' (kn + 3) u = h (kn + 3) u ∧ h' (kn + 4) u = h (kn + 4) u) ∧ CR h' T t (pQ t T x) ∧ ∀ z, pQ t T x = .inr z → if bo (isW t 6 x) = true then (h' (kn + 4) v = nI ((tn t T x.2.1).2.1 - (tn t T x.2.1).1) ∧ h' (kn + 3) v = nI (cC (dg t (tn t T x.2.1)) ((tn t T x.2.1).2.1 - (tn t T x.2.1).1))) else (h' (kn + 4) v = h (kn + 4) v ∧ h' (kn + 3) v = h (kn + 3) v)) := by
  have bn := net_le hkn
  have n1 : ¬ (nI 1 : Int32) = 0 := by decide
  unfold f8_readCoins
  rw [x_cisWord c.1 (by omega : 6 < 9) hF]
  refine ev_bs ?_
  dsimp only
  by_cases w6 : bo (isW t 6 x) = true
  rotate_left
  · have pe : pQ t T x = .inr x := by unfold pQ; rw [if_neg w6]
    refine Ev.pos (by rw [if_neg w6]; rfl) (Ev.some ⟨fun _ _ _ _ => rfl, fun _ _ => ⟨rfl, rfl⟩, by rw [pe]; exact c, fun z _ => ?_⟩)
    rw [if_neg w6]
    exact ⟨rfl, rfl⟩
  · refine Ev.neg (by rw [if_pos w6]; decide) (Ev.bind (y_adv c.1 c.2 hF) (fun h1 q1 => ?_))
    obtain ⟨f1, c1⟩ := q1
    simp only [w6, if_true]
    have pe : pQ t T x = (if (tn t T x.2.1).2.2 = 2 then (if okC t (tn t T x.2.1) = true then .inr (tn t T (tn t T x.2.1).2.1) else .inl (2, (tn t T x.2.1).1)) else .inl (1, (tn t T x.2.1).1)) := by unfold pQ; rw [if_pos w6]
    generalize tn t T x.2.1 = y at c1 pe ⊢
    have c10 := c1.1
    obtain ⟨tc, ⟨l1, l2, l3⟩, fine, ⟨o1, o2, o3, o4⟩⟩ := id c10
    have hT := tc.1
    have bad : ∀ k, (1 ≤ k ∧ k ≤ 4) → pQ t T x = .inl (k, y.1) → Ev (Option.bind (f6_refuse F (nI k) h1) (fun o49 => some o49)) (fun h' => (∀ q, q ≠ 1 → q ≠ kn + 3 → q ≠ kn + 4 → h' q = h q) ∧ (∀ u, u ≠ v → h' (kn + 3) u = h (kn + 3) u ∧ h' (kn + 4) u = h (kn + 4) u) ∧ CR h' T t (pQ t T x) ∧ ∀ z, pQ t T x = .inr z → h' (kn + 4) v = nI (y.2.1 - y.1) ∧ h' (kn + 3) v = nI (cC (dg t y) (y.2.1 - y.1))) := fun k hk e => Ev.bind (y_refuse (k := k) c10 hk) (fun h' q => Ev.some ⟨fun q' a _ _ => by rw [q.1 q' a, f1 q' a], fun u _ => by rw [q.1 _ (by omega), f1 _ (by omega), q.1 _ (by omega), f1 _ (by omega)]; exact ⟨rfl, rfl⟩, by rw [e]; exact q.2, fun z w => by rw [e] at w; cases w⟩)
    by_cases k2 : y.2.2 = 2
    rotate_left
    · exact Ev.neg (by rw [l3, l32_2, ni_eq (by omega) (by omega)]; exact k2) (bad 1 (by omega) (by rw [pe, if_neg k2]))
    · refine Ev.pos (by rw [l3, k2]; rfl) ?_
      rw [if_pos k2] at pe
      rw [x_areCoins c10 hF]
      refine ev_bs ?_
      dsimp only
      by_cases oc : okC t y = true
      rotate_left
      · exact Ev.pos (by rw [if_neg oc]; rfl) (bad 2 (by omega) (by rw [pe, if_neg oc]))
      · rw [if_pos oc] at pe
        obtain ⟨n8, low⟩ := bo_t.mp oc
        have dig := o4 k2
        have dle : ∀ i, i < y.2.1 - y.1 → dg t y i ≤ 1 := fun i hi => by
          have a := low i hi
          have b := (dig (y.1 + i) (by omega) (by omega)).1
          unfold dg
          omega
        refine Ev.neg (by rw [if_pos oc]; decide) (Ev.grd (ni_in (by omega) hv) (Ev.nm ?_))
        rw [l1, l2, ni_sub o1, ni_cl (by omega)]
        obtain ⟨h2, eh2⟩ : ∃ h2, h2 = hp_up h1 (kn + 4) v (nI (y.2.1 - y.1)) := ⟨_, rfl⟩
        rw [← eh2]
        have k0 : ∀ q, q ≠ kn + 4 → h2 q = h1 q := fun q a => by rw [eh2, up_kk _ _ _ _ _ a]
        refine Ev.bind (P := fun h' => (∀ q, q ≠ kn + 3 → h' q = h2 q) ∧ (∀ u, u ≠ v → h' (kn + 3) u = h2 (kn + 3) u) ∧ h' (kn + 3) v = nI (cC (dg t y) (y.2.1 - y.1))) ?_ (fun h3 q3 => ?_)
        · refine Ev.it (I := fun i st => i ≤ y.2.1 - y.1 ∧ st.1 = nI i ∧ (∀ q, q ≠ kn + 3 → st.2 q = h2 q) ∧ (∀ u, u ≠ v → st.2 (kn + 3) u = h2 (kn + 3) u) ∧ st.2 (kn + 3) v = nI (cC (dg t y) i)) _ (y.2.1 - y.1) ?_ F 0 _ (by omega) (by omega) ⟨by omega, rfl, fun _ _ => rfl, fun _ _ => rfl, by show h2 (kn + 3) v = nI 0; rw [k0 _ (by omega), f1 _ (by omega)]; exact hz⟩
          rintro i ⟨x4, h3⟩ hi hI
          obtain ⟨hie, rfl, g1, g2, g3⟩ : i ≤ y.2.1 - y.1 ∧ x4 = nI i ∧ (∀ q, q ≠ kn + 3 → h3 q = h2 q) ∧ (∀ u, u ≠ v → h3 (kn + 3) u = h2 (kn + 3) u) ∧ h3 (kn + 3) v = nI (cC (dg t y) i) := hI
          show Ev (f8_readCoins_b59 F kn (nI v) (nI i) h3) _
          have cnt : h3 (kn + 4) v = nI (y.2.1 - y.1) := by rw [g1 _ (by omega), eh2, up_s]
          have tc3 : TC h3 T t := tc.eqv (by rw [g1 2 (by omega), k0 2 (by omega)]) (by rw [g1 3 (by omega), k0 3 (by omega)])
          have s3 : h3 1 2 = nI y.1 := by rw [g1 1 (by omega), k0 1 (by omega)]; exact l1
          unfold f8_readCoins_b59
          refine Ev.grd (ni_in (by omega) hv) ?_
          rw [ni_cl (by omega)]
          by_cases z : y.2.1 - y.1 ≤ i
          · refine Ev.pos (by rw [cnt, ni_le (by omega) (by omega)]; exact z) (Ev.some ⟨g1, g2, ?_⟩)
            rw [show y.2.1 - y.1 = i by omega]; exact g3
          · have d1 := dle i (by omega)
            have db := (dig (y.1 + i) (by omega) (by omega)).1
            have cv := cC_v (d := dg t y) i (by omega) (fun j hj => dle j (by omega))
            have p7 : 2 ^ i ≤ 2 ^ 7 := Nat.pow_le_pow_right (by omega) (by omega)
            refine Ev.neg (by rw [cnt, ni_le (by omega) (by omega)]; exact z) (Ev.grd (ni_in (by omega) hv) ?_)
            rw [s3, nI_add, x_byteAt tc3 _ (by omega), if_pos (by omega)]
            refine ev_bs (Ev.grd (ni_in (by omega) hv) (Ev.nm (Ev.some ⟨by omega, by omega, nI_1 i, fun q hq => ?_, fun u hu => ?_, ?_⟩)))
            · dsimp only; rw [up_kk _ _ _ _ _ hq]; exact g1 q hq
            · dsimp only; rw [up_j _ _ _ _ _ hu]; exact g2 u hu
            · dsimp only
              have os := or_sh ⟨i, by omega⟩ ⟨cC (dg t y) i, by omega⟩ ⟨dg t y i, by omega⟩ cv.1
              dsimp only at os
              have ed : nI (t (y.1 + i)) - (48 : Int32) = nI (dg t y i) := by rw [l32_48, ni_sub (by omega)]; rfl
              rw [up_s, g3, ed, os, cC_s]
        · obtain ⟨g1, g2, g3⟩ := q3
          have low3 : ∀ q, q ≠ kn + 3 → q ≠ kn + 4 → h3 q = h1 q := fun q a b => by rw [g1 q a, k0 q b]
          have c3 : CR h3 T t (.inr y) := CR.eqv c1 (low3 1 (by omega) (by omega)) (low3 2 (by omega) (by omega)) (low3 3 (by omega) (by omega))
          refine Ev.bind (y_adv c3.1 c3.2 hF) (fun h' q => Ev.some ⟨fun q' a b d => by rw [q.1 q' a, low3 q' b d, f1 q' a], fun u hu => ?_, by rw [pe]; exact q.2, fun z _ => ?_⟩)
          · rw [q.1 _ (by omega), q.1 _ (by omega), g2 u hu, g1 (kn + 4) (by omega), k0 (kn + 3) (by omega), f1 _ (by omega), eh2, up_j _ _ _ _ _ hu, f1 _ (by omega)]
            exact ⟨rfl, rfl⟩
          · rw [q.1 _ (by omega), q.1 _ (by omega), g1 (kn + 4) (by omega), eh2, up_s]
            exact ⟨rfl, g3⟩
