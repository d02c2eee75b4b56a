-- the class takes a word, a sign, a number
def FrK (h h' : Hp) : Prop := ∀ c, c ≠ 1 → h' c = h c
theorem FrK.refl (h : Hp) : FrK h h := fun _ _ => rfl
theorem FrK.trans {h1 h2 h3 : Hp} (a : FrK h1 h2) (b : FrK h2 h3) : FrK h1 h3 := fun c hc => (b c hc).trans (a c hc)
/-- how far the class's reading is: a fault, or the token where it stands -/
def CR (h : Hp) (T : Nat) (t : Nat → Nat) (r : Rs Tok) : Prop := match r with
  | .inl f => TC h T t ∧ h 1 4 = nI f.1 ∧ 1 ≤ f.1 ∧ f.1 ≤ 4 ∧ h 1 5 = nI f.2
  | .inr x => CP h T t x ∧ h 1 5 = mm
theorem CR.tc {h : Hp} {T : Nat} {t : Nat → Nat} {r : Rs Tok} (c : CR h T t r) : TC h T t := by
  cases r with
  | inl f => exact c.1
  | inr x => exact c.1.1
theorem CR.bad {h : Hp} {T : Nat} {t : Nat → Nat} {f : Nat × Nat} (c : CR h T t (.inl f)) : ¬ h 1 4 = 0 := by
  obtain ⟨a, b, d, e, g⟩ := c
  rw [b, l32_0, ni_eq (by omega) (by omega)]
  omega
theorem x_fine0 {h : Hp} {F : Nat} (hh : h 1 4 = nI 0) : f6_isFine F h = some (nI 1, h) := by
  refine Ev.eq ?_
  unfold f6_isFine
  exact Ev.pos (by rw [hh]; rfl) (Ev.some rfl)
theorem x_fine1 {h : Hp} {F : Nat} (hh : ¬ h 1 4 = 0) : f6_isFine F h = some (nI 0, h) := by
  refine Ev.eq ?_
  unfold f6_isFine
  exact Ev.neg hh (Ev.some rfl)
theorem y_adv {T F : Nat} {t : Nat → Nat} {h : Hp} {x : Tok} (c : CP h T t x) (h5 : h 1 5 = mm) (hF : 1000 ≤ F) : Ev (f6_advance F h) (fun h' => FrK h h' ∧ CR h' T t (.inr (tn t T x.2.1))) := by
  obtain ⟨tc, lc, fine, ok⟩ := c
  refine Ev.mono (x_advance tc lc.2.1 ok.2.1 hF) (fun h' hh => ?_)
  obtain ⟨f, s, e, k, tk, l⟩ := hh
  refine ⟨f.1, ⟨f.tc tc, ?_, ?_, ?_⟩, ?_⟩
  · rw [tn_eq tk]; exact l
  · rw [f.2 4 (by omega)]; exact fine
  · rw [tn_eq tk]; exact tk.okT ok.2.1
  · rw [f.2 5 (by omega)]; exact h5
theorem y_refuse {T k F : Nat} {t : Nat → Nat} {h : Hp} {x : Tok} (c : CP h T t x) (hk : 1 ≤ k ∧ k ≤ 4) : Ev (f6_refuse F (nI k) h) (fun h' => FrK h h' ∧ CR h' T t (.inl (k, x.1))) := by
  obtain ⟨tc, lc, fine, ok⟩ := c
  unfold f6_refuse
  rw [x_fine0 fine]
  refine ev_bs (Ev.neg (by decide : ¬ (nI 1 : Int32) = 0) (Ev.nm (Ev.nm (Ev.some ⟨fun c hc => ?_, tc.eqv ?_ ?_, ?_, hk.1, hk.2, ?_⟩))))
  · dsimp only; rw [up_kk _ _ _ _ _ hc, up_kk _ _ _ _ _ hc]
  · dsimp only; rw [up_kk _ _ _ _ _ (by omega), up_kk _ _ _ _ _ (by omega)]
  · dsimp only; rw [up_kk _ _ _ _ _ (by omega), up_kk _ _ _ _ _ (by omega)]
  · dsimp only; rw [up_j _ _ _ _ _ (by omega), up_s]
  · dsimp only; rw [up_s, up_j _ _ _ _ _ (by omega)]; exact lc.1
noncomputable def pW (t : Nat → Nat) (T w : Nat) (x : Tok) : Rs Tok := if bo (isW t w x) = true then .inr (tn t T x.2.1) else .inl (1, x.1)
noncomputable def pS (t : Nat → Nat) (T : Nat) (x : Tok) : Rs Tok := if x.2.2 = 3 then .inr (tn t T x.2.1) else .inl (1, x.1)
noncomputable def pN (t : Nat → Nat) (T lo hi : Nat) (x : Tok) : Rs Tok := if x.2.2 = 2 then (if lo ≤ vR t x.1 (x.2.1 - x.1) ∧ vR t x.1 (x.2.1 - x.1) ≤ hi then .inr (tn t T x.2.1) else .inl (2, x.1)) else .inl (1, x.1)
theorem y_takeWord {T w F : Nat} {t : Nat → Nat} {h : Hp} {r : Rs Tok} (c : CR h T t r) (hw : w < 9) (hF : 1000 ≤ F) : Ev (f6_takeWord F w h) (fun h' => FrK h h' ∧ CR h' T t (bnd r (pW t T w))) := by
  unfold f6_takeWord
  cases r with
  | inl f =>
    rw [x_fine1 c.bad]
    exact ev_bs (Ev.pos rfl (Ev.some ⟨FrK.refl _, c⟩))
  | inr x =>
    have c0 := c.1
    rw [x_fine0 c0.2.2.1]
    refine ev_bs (Ev.neg (by decide : ¬ (nI 1 : Int32) = 0) ?_)
    dsimp only
    rw [x_cisWord c0 hw hF]
    refine ev_bs ?_
    show Ev _ (fun h' => FrK h h' ∧ CR h' T t (pW t T w x))
    dsimp only
    unfold pW
    by_cases z : bo (isW t w x) = true
    · rw [if_pos z, if_pos z]
      exact Ev.neg (by decide : ¬ (nI 1 : Int32) = 0) (Ev.bind (y_adv c0 c.2 hF) (fun h' hh => Ev.some hh))
    · rw [if_neg z, if_neg z]
      exact Ev.pos rfl (Ev.bind (y_refuse (k := 1) c0 (by omega)) (fun h' hh => Ev.some hh))
theorem y_takeSign {T F : Nat} {t : Nat → Nat} {h : Hp} {r : Rs Tok} (c : CR h T t r) (hF : 1000 ≤ F) : Ev (f6_takeSign F h) (fun h' => FrK h h' ∧ CR h' T t (bnd r (pS t T))) := by
  unfold f6_takeSign
  cases r with
  | inl f =>
    rw [x_fine1 c.bad]
    exact ev_bs (Ev.pos rfl (Ev.some ⟨FrK.refl _, c⟩))
  | inr x =>
    have c0 := c.1
    have kl := c0.2.2.2.2.2.1
    rw [x_fine0 c0.2.2.1]
    refine ev_bs (Ev.neg (by decide : ¬ (nI 1 : Int32) = 0) ?_)
    show Ev _ (fun h' => FrK h h' ∧ CR h' T t (pS t T x))
    dsimp only
    unfold pS
    by_cases z : x.2.2 = 3
    · rw [if_pos z]
      exact Ev.pos (by rw [c0.2.1.2.2, z]; rfl) (Ev.bind (y_adv c0 c.2 hF) (fun h' hh => Ev.some hh))
    · rw [if_neg z]
      exact Ev.neg (by rw [c0.2.1.2.2, l32_3, ni_eq (by omega) (by omega)]; exact z) (Ev.bind (y_refuse (k := 1) c0 (by omega)) (fun h' hh => Ev.some hh))
theorem x_numberHere {T F : Nat} {t : Nat → Nat} {h : Hp} {x : Tok} (c : CP h T t x) (k2 : x.2.2 = 2) (hF : 1000 ≤ F) : f6_numberHere F h = some (nI (vC t x.1 (x.2.1 - x.1)), h) := by
  obtain ⟨s, e, k⟩ := x
  obtain ⟨tc, ⟨l1, l2, l3⟩, fine, ⟨o1, o2, o3, o4⟩⟩ := c
  dsimp only at l1 l2 l3 o1 o2 o3 o4 k2 ⊢
  have hT := tc.1
  have dg := o4 k2
  have bd : ∀ n, n ≤ e - s → vC t s n ≤ 9999 := fun n hn => by
    rcases vRC (t := t) (s := s) n (fun i hi => (dg (s + i) (by omega) (by omega)).2) with q | q
    · omega
    · omega
  refine Ev.eq ?_
  unfold f6_numberHere
  rw [l1]
  refine Ev.bind (P := fun o => o = (nI (vC t s (e - s)), h)) ?_ (fun o ho => by rw [ho]; exact Ev.some rfl)
  refine Ev.it (I := fun i st => i ≤ e - s ∧ st = (nI (vC t s i), nI (s + i), h)) _ (e - s) ?_ F 0 _ (by omega) (by omega) ⟨by omega, rfl⟩
  rintro i st hi ⟨hie, rfl⟩
  show Ev (f6_numberHere_b7 F (nI (vC t s i)) (nI (s + i)) h) _
  have nxt : nI (s + i) + 1 = nI (s + (i + 1)) := nI_1 _
  have b1 := bd i hie
  unfold f6_numberHere_b7
  by_cases z : e ≤ s + i
  · refine Ev.pos (by rw [l2]; simp (disch := omega) only [up_s, up_k, up_j, mm_neg, mm_def, ni_lt, ni_le, ni_eq, ni_mm, mm_ni, ni_lt_mm, ni_le_mm, mm_lt_ni, mm_le_ni, mm_lt_mm, mm_le_mm, ni_cl, ni_in, nI_add, ni_mul, ni_div, ni_rem, ni_rem2, fr_sub, fr_mm, fr_ge0, fr_lt0, fr_inj, l32_0, l32_1, l32_2, l32_3, l32_4, l32_5, l32_6, l32_7, l32_8, l32_9, l32_10, l32_11, l32_12, l32_13, l32_14, l32_15, l32_16, l32_20, l32_24, l32_25, l32_26, l32_31, l32_32, l32_34, l32_35, l32_39, l32_40, l32_44, l32_45, l32_46, l32_47, l32_48, l32_49, l32_57, l32_58, l32_59, l32_63, l32_64, l32_85, l32_90, l32_97, l32_99, l32_100, l32_110, l32_112, l32_122, l32_124, l32_125, l32_255, l32_680, l32_699, l32_700, l32_999, l32_2500, l32_99999, l32_100000, l32_1000000, if_true, if_false, ite_true, ite_false, ce_nm, Option.bind, if_pos, if_neg]; exact z) (Ev.some ?_)
    rw [show i = e - s by omega]
  · refine Ev.neg (by rw [l2]; simp (disch := omega) only [up_s, up_k, up_j, mm_neg, mm_def, ni_lt, ni_le, ni_eq, ni_mm, mm_ni, ni_lt_mm, ni_le_mm, mm_lt_ni, mm_le_ni, mm_lt_mm, mm_le_mm, ni_cl, ni_in, nI_add, ni_mul, ni_div, ni_rem, ni_rem2, fr_sub, fr_mm, fr_ge0, fr_lt0, fr_inj, l32_0, l32_1, l32_2, l32_3, l32_4, l32_5, l32_6, l32_7, l32_8, l32_9, l32_10, l32_11, l32_12, l32_13, l32_14, l32_15, l32_16, l32_20, l32_24, l32_25, l32_26, l32_31, l32_32, l32_34, l32_35, l32_39, l32_40, l32_44, l32_45, l32_46, l32_47, l32_48, l32_49, l32_57, l32_58, l32_59, l32_63, l32_64, l32_85, l32_90, l32_97, l32_99, l32_100, l32_110, l32_112, l32_122, l32_124, l32_125, l32_255, l32_680, l32_699, l32_700, l32_999, l32_2500, l32_99999, l32_100000, l32_1000000, if_true, if_false, ite_true, ite_false, ce_nm, Option.bind, if_pos, if_neg]; exact z) ?_
    have vs := vC_s t s i
    by_cases y : 999 < vC t s i
    · rw [if_pos y] at vs
      refine Ev.pos (by simp (disch := omega) only [up_s, up_k, up_j, mm_neg, mm_def, ni_lt, ni_le, ni_eq, ni_mm, mm_ni, ni_lt_mm, ni_le_mm, mm_lt_ni, mm_le_ni, mm_lt_mm, mm_le_mm, ni_cl, ni_in, nI_add, ni_mul, ni_div, ni_rem, ni_rem2, fr_sub, fr_mm, fr_ge0, fr_lt0, fr_inj, l32_0, l32_1, l32_2, l32_3, l32_4, l32_5, l32_6, l32_7, l32_8, l32_9, l32_10, l32_11, l32_12, l32_13, l32_14, l32_15, l32_16, l32_20, l32_24, l32_25, l32_26, l32_31, l32_32, l32_34, l32_35, l32_39, l32_40, l32_44, l32_45, l32_46, l32_47, l32_48, l32_49, l32_57, l32_58, l32_59, l32_63, l32_64, l32_85, l32_90, l32_97, l32_99, l32_100, l32_110, l32_112, l32_122, l32_124, l32_125, l32_255, l32_680, l32_699, l32_700, l32_999, l32_2500, l32_99999, l32_100000, l32_1000000, if_true, if_false, ite_true, ite_false, ce_nm, Option.bind, if_pos, if_neg]; exact y) (Ev.some ⟨by omega, by omega, ?_⟩)
      rw [nxt, vs]
    · rw [if_neg y] at vs
      have d := dg (s + i) (by omega) (by omega)
      refine Ev.neg (by simp (disch := omega) only [up_s, up_k, up_j, mm_neg, mm_def, ni_lt, ni_le, ni_eq, ni_mm, mm_ni, ni_lt_mm, ni_le_mm, mm_lt_ni, mm_le_ni, mm_lt_mm, mm_le_mm, ni_cl, ni_in, nI_add, ni_mul, ni_div, ni_rem, ni_rem2, fr_sub, fr_mm, fr_ge0, fr_lt0, fr_inj, l32_0, l32_1, l32_2, l32_3, l32_4, l32_5, l32_6, l32_7, l32_8, l32_9, l32_10, l32_11, l32_12, l32_13, l32_14, l32_15, l32_16, l32_20, l32_24, l32_25, l32_26, l32_31, l32_32, l32_34, l32_35, l32_39, l32_40, l32_44, l32_45, l32_46, l32_47, l32_48, l32_49, l32_57, l32_58, l32_59, l32_63, l32_64, l32_85, l32_90, l32_97, l32_99, l32_100, l32_110, l32_112, l32_122, l32_124, l32_125, l32_255, l32_680, l32_699, l32_700, l32_999, l32_2500, l32_99999, l32_100000, l32_1000000, if_true, if_false, ite_true, ite_false, ce_nm, Option.bind, if_pos, if_neg]; exact y) ?_
      rw [x_byteAt tc _ (by omega), if_pos (by omega)]
      refine ev_bs (Ev.some ⟨by omega, by omega, ?_⟩)
      dsimp only
      rw [nxt, vs, l32_10, ni_mul, nI_add, l32_48, ni_sub (by omega)]
      congr 2
      omega
theorem y_takeNumber {T lo hi F : Nat} {t : Nat → Nat} {h : Hp} {r : Rs Tok} (c : CR h T t r) (hh : hi ≤ 999) (hl : lo ≤ 999) (hF : 1000 ≤ F) : Ev (f6_takeNumber F (nI lo) (nI hi) h) (fun o => FrK h o.2 ∧ CR o.2 T t (bnd r (pN t T lo hi)) ∧ ∀ x y, r = .inr x → pN t T lo hi x = .inr y → o.1 = nI (vR t x.1 (x.2.1 - x.1))) := by
  unfold f6_takeNumber
  cases r with
  | inl f =>
    rw [x_fine1 c.bad]
    exact ev_bs (Ev.pos rfl (Ev.some ⟨FrK.refl _, c, fun x y q => by cases q⟩))
  | inr x =>
    have c0 := c.1
    have kl := c0.2.2.2.2.2.1
    rw [x_fine0 c0.2.2.1]
    refine ev_bs (Ev.neg (by decide : ¬ (nI 1 : Int32) = 0) ?_)
    show Ev _ (fun (o : Int32 × Hp) => FrK h o.2 ∧ CR o.2 T t (pN t T lo hi x) ∧ ∀ x' y, (Sum.inr x : Rs Tok) = .inr x' → pN t T lo hi x' = .inr y → o.1 = nI (vR t x'.1 (x'.2.1 - x'.1)))
    dsimp only
    by_cases z : x.2.2 = 2
    · refine Ev.pos (by rw [c0.2.1.2.2, z]; rfl) ?_
      rw [x_numberHere c0 z hF]
      refine ev_bs ?_
      dsimp only
      have dg := c0.2.2.2.2.2.2 z
      have o1 := c0.2.2.2.1
      have rc := vRC (t := t) (s := x.1) (x.2.1 - x.1) (fun i hi => (dg (x.1 + i) (by omega) (by omega)).2)
      generalize hc : vC t x.1 (x.2.1 - x.1) = vc at rc
      have pn : pN t T lo hi x = if lo ≤ vR t x.1 (x.2.1 - x.1) ∧ vR t x.1 (x.2.1 - x.1) ≤ hi then .inr (tn t T x.2.1) else .inl (2, x.1) := by unfold pN; rw [if_pos z]
      generalize hr : vR t x.1 (x.2.1 - x.1) = vr at rc pn
      by_cases y : lo ≤ vr ∧ vr ≤ hi
      · have e1 : vc = vr := by omega
        rw [if_pos y] at pn
        refine Ev.neg (by rw [ni_lt (by omega) (by omega)]; omega) (Ev.pos (by rw [ni_le (by omega) (by omega)]; omega) (Ev.bind (y_adv c0 c.2 hF) (fun h' q => Ev.some ⟨q.1, ?_, fun x' y' e _ => ?_⟩)))
        · rw [pn]; exact q.2
        · cases e
          rw [hr, e1]
      · rw [if_neg y] at pn
        have fin : Ev (Option.bind (f6_refuse F (2 : Int32) h) (fun o41 => some (nI lo, o41))) (fun o => FrK h o.2 ∧ CR o.2 T t (pN t T lo hi x) ∧ ∀ x' y, (Sum.inr x : Rs Tok) = .inr x' → pN t T lo hi x' = .inr y → o.1 = nI (vR t x'.1 (x'.2.1 - x'.1))) := by
          refine Ev.bind (y_refuse (k := 2) c0 (by omega)) (fun h' q => Ev.some ⟨q.1, ?_, fun x' y' e w => ?_⟩)
          · rw [pn]; exact q.2
          · cases e
            rw [pn] at w
            cases w
        by_cases w : vc < lo
        · exact Ev.pos (by rw [ni_lt (by omega) (by omega)]; exact w) fin
        · exact Ev.neg (by rw [ni_lt (by omega) (by omega)]; exact w) (Ev.neg (by rw [ni_le (by omega) (by omega)]; omega) fin)
    · have pn : pN t T lo hi x = .inl (1, x.1) := by unfold pN; rw [if_neg z]
      refine Ev.neg (by rw [c0.2.1.2.2, l32_2, ni_eq (by omega) (by omega)]; exact z) (Ev.bind (y_refuse (k := 1) c0 (by omega)) (fun h' q => Ev.some ⟨q.1, ?_, fun x' y' e w => ?_⟩))
      · rw [pn]; exact q.2
      · cases e
        rw [pn] at w
        cases w
