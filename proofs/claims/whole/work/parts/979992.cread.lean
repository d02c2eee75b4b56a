-- the class reads a text
theorem y_begin {T F : Nat} {t : Nat → Nat} {h : Hp} (tc : TC h T t) (hF : 1000 ≤ F) : Ev (f6_begin F h) (fun h' => FrK h h' ∧ CR h' T t (.inr (tn t T 0))) := by
  unfold f6_begin
  refine Ev.nm (Ev.nm (Ev.nm ?_))
  obtain ⟨h1, eh1⟩ : ∃ h1, h1 = hp_up (hp_up (hp_up h 1 4 (0 : Int32)) 1 5 (-1 : Int32)) 1 3 (0 : Int32) := ⟨_, rfl⟩
  rw [← eh1]
  have k : FrK h h1 := fun c hc => by rw [eh1, up_kk _ _ _ _ _ hc, up_kk _ _ _ _ _ hc, up_kk _ _ _ _ _ hc]
  have s3 : h1 1 3 = nI 0 := by rw [eh1, up_s]; rfl
  have s5 : h1 1 5 = mm := by rw [eh1, up_j _ _ _ _ _ (by omega), up_s]; rfl
  have s4 : h1 1 4 = nI 0 := by rw [eh1, up_j _ _ _ _ _ (by omega), up_j _ _ _ _ _ (by omega), up_s]; rfl
  have tc1 : TC h1 T t := tc.eqv (k 2 (by omega)) (k 3 (by omega))
  refine Ev.bind (x_advance tc1 s3 (Nat.zero_le _) hF) (fun h2 q => Ev.some ?_)
  obtain ⟨f, s, e, kk, tk, l⟩ := q
  refine ⟨k.trans f.1, ⟨f.tc tc1, ?_, ?_, ?_⟩, ?_⟩
  · rw [tn_eq tk]; exact l
  · rw [f.2 4 (by omega)]; exact s4
  · rw [tn_eq tk]; exact tk.okT (Nat.zero_le _)
  · rw [f.2 5 (by omega)]; exact s5
theorem y_clear {kn F : Nat} {h : Hp} (hkn : ce_isNet kn) (hF : 1000 ≤ F) : Ev (f5_clear F kn h) (fun h' => (∀ q, (q < kn ∨ kn + 6 < q) → h' q = h q) ∧ NetR h' kn (fun _ => 0)) := by
  have bn := net_le hkn
  unfold f5_clear
  refine Ev.nm (Ev.nm (Ev.nm (Ev.nm (Ev.nm ?_))))
  obtain ⟨h1, eh1⟩ : ∃ h1, h1 = hp_up (hp_up (hp_up (hp_up (hp_up h kn 0 (0 : Int32)) kn 1 (0 : Int32)) kn 2 (0 : Int32)) kn 3 (0 : Int32)) kn 4 (0 : Int32) := ⟨_, rfl⟩
  rw [← eh1]
  have k : ∀ q, q ≠ kn → h1 q = h q := fun c hc => by rw [eh1, up_kk _ _ _ _ _ hc, up_kk _ _ _ _ _ hc, up_kk _ _ _ _ _ hc, up_kk _ _ _ _ _ hc, up_kk _ _ _ _ _ hc]
  have s4 : h1 kn 4 = nI 0 := by rw [eh1, up_s]; rfl
  have s3 : h1 kn 3 = nI 0 := by rw [eh1, up_j _ _ _ _ _ (by omega), up_s]; rfl
  have s2 : h1 kn 2 = nI 0 := by rw [eh1, up_j _ _ _ _ _ (by omega), up_j _ _ _ _ _ (by omega), up_s]; rfl
  have s1 : h1 kn 1 = nI 0 := by rw [eh1, up_j _ _ _ _ _ (by omega), up_j _ _ _ _ _ (by omega), up_j _ _ _ _ _ (by omega), up_s]; rfl
  have s0 : h1 kn 0 = nI 0 := by rw [eh1, up_j _ _ _ _ _ (by omega), up_j _ _ _ _ _ (by omega), up_j _ _ _ _ _ (by omega), up_j _ _ _ _ _ (by omega), up_s]; rfl
  refine Ev.bind (x_fill (n := 40) (by omega) (by omega)) (fun h2 q => Ev.some ⟨fun c hc => ?_, ⟨?_, ?_, fun v hv => absurd hv (Nat.not_lt_zero v), fun e he => ?_, fun e he h0 => absurd rfl h0⟩, ?_, ?_, ?_, fun v hv => absurd hv (Nat.not_lt_zero v), fun v hv => absurd hv (Nat.not_lt_zero v)⟩)
  · rw [q.1 c (by omega), k c (by omega)]
  · rw [q.1 kn (by omega)]; exact s2
  · rw [q.1 kn (by omega)]; exact s3
  · rw [q.2 e he]; rfl
  · rw [q.1 kn (by omega)]; exact s0
  · rw [q.1 kn (by omega)]; exact s1
  · rw [q.1 kn (by omega), s4]
    show nI 0 = nI (ctc (fun _ => 0))
    rw [ctc_zero]
theorem NetR.lines {h : Hp} {kn a : Nat} {m : Nat → Nat} (nr : NetR h kn m) : NetR (hp_up h kn 0 (nI a)) kn (un m 3 a) := by
  obtain ⟨⟨b1, b2, b3, b4, b5⟩, a2, a3, a4, a5, a6⟩ := nr
  have n : ∀ j, j ≠ 3 → un m 3 a j = m j := fun j h0 => by rw [un_n h0]
  have o : og (un m 3 a) = og m := og_un (by omega)
  refine ⟨⟨?_, ?_, fun v hv => ?_, fun e he => ?_, fun e he h0 => ?_⟩, ?_, ?_, ?_, fun v hv => ?_, fun v hv => ?_⟩
  · rw [up_j _ _ _ _ _ (by omega), n 1 (by omega)]; exact b1
  · rw [up_j _ _ _ _ _ (by omega), n 2 (by omega)]; exact b2
  · rw [n 2 (by omega)] at hv
    rw [up_k _ _ _ _ _ _ (by omega), n _ (by omega)]; exact b3 v hv
  · rw [up_k _ _ _ _ _ _ (by omega), o]; exact b4 e he
  · rw [o] at h0
    rw [up_k _ _ _ _ _ _ (by omega), n _ (by omega)]; exact b5 e he h0
  · rw [up_s, un_s]
  · rw [up_j _ _ _ _ _ (by omega), n 0 (by omega)]; exact a3
  · rw [up_j _ _ _ _ _ (by omega), o]; exact a4
  · rw [n 2 (by omega)] at hv
    rw [up_k _ _ _ _ _ _ (by omega), n _ (by omega)]; exact a5 v hv
  · rw [n 2 (by omega)] at hv
    rw [up_k _ _ _ _ _ _ (by omega), up_k _ _ _ _ _ _ (by omega), n _ (by omega), n _ (by omega)]; exact a6 v hv
theorem NetR.bus {h h' : Hp} {kn a b : Nat} {m : Nat → Nat} (nr : NetR h kn m) (f : ∀ q, kn < q → q ≤ kn + 6 → h' q = h q) (g : ∀ j, j ≠ 1 → j ≠ 2 → h' kn j = h kn j) (e1 : h' kn 1 = nI a) (e2 : h' kn 2 = nI b) : NetR h' kn (un (un m 0 a) 1 b) := by
  obtain ⟨⟨b1, b2, b3, b4, b5⟩, a2, a3, a4, a5, a6⟩ := nr
  have n : ∀ j, j ≠ 0 → j ≠ 1 → un (un m 0 a) 1 b j = m j := fun j h0 h1 => by rw [un_n h1, un_n h0]
  have o : og (un (un m 0 a) 1 b) = og m := by rw [og_un (by omega), og_un (by omega)]
  refine ⟨⟨?_, ?_, fun v hv => ?_, fun e he => ?_, fun e he h0 => ?_⟩, ?_, ?_, ?_, fun v hv => ?_, fun v hv => ?_⟩
  · rw [e2, un_s]
  · rw [g _ (by omega) (by omega), n 2 (by omega) (by omega)]; exact b2
  · rw [n 2 (by omega) (by omega)] at hv
    rw [f _ (by omega) (by omega), n _ (by omega) (by omega)]; exact b3 v hv
  · rw [f _ (by omega) (by omega), o]; exact b4 e he
  · rw [o] at h0
    rw [f _ (by omega) (by omega), n _ (by omega) (by omega)]; exact b5 e he h0
  · rw [g _ (by omega) (by omega), n 3 (by omega) (by omega)]; exact a2
  · rw [e1, un_n (by omega), un_s]
  · rw [g _ (by omega) (by omega), o]; exact a4
  · rw [n 2 (by omega) (by omega)] at hv
    rw [f _ (by omega) (by omega), n _ (by omega) (by omega)]; exact a5 v hv
  · rw [n 2 (by omega) (by omega)] at hv
    rw [f (kn + 4) (by omega) (by omega), f (kn + 3) (by omega) (by omega), n _ (by omega) (by omega), n _ (by omega) (by omega)]; exact a6 v hv
/-- behind a line: its sign, and the number of lines -/
theorem y_lineS {T kn F i : Nat} {t : Nat → Nat} {h : Hp} {r : Rs St} (hkn : ce_isNet kn) (c : CSt h kn T t r) (h3 : ∀ u, r = .inr u → u.2.1 3 = i) (hF : 1000 ≤ F) : Ev (f6_takeSign F h) (fun h' => FrK h h' ∧ CSt (hp_up h' kn 0 (nI (i + 1))) kn T t (bnd r (lineS t T))) := by
  have bn := net_le hkn
  cases r with
  | inl f =>
    have c' : CR h T t (.inl f) := c
    refine Ev.mono (y_takeSign c' hF) (fun h1 q => ⟨q.1, ?_⟩)
    exact CR.eqv (r := .inl f) q.2 (up_kk _ _ _ _ _ (by omega)) (up_kk _ _ _ _ _ (by omega)) (up_kk _ _ _ _ _ (by omega))
  | inr u =>
    obtain ⟨c1, nr, ca⟩ := c
    have m3 := h3 u rfl
    refine Ev.mono (y_takeSign c1 hF) (fun h1 q => ⟨q.1, ?_⟩)
    have c2 : CR h1 T t (pS t T u.1) := q.2
    show CSt _ kn T t (lineS t T u)
    unfold lineS
    cases r : pS t T u.1 with
    | inl f =>
      rw [r] at c2
      exact CR.eqv (r := .inl f) c2 (up_kk _ _ _ _ _ (by omega)) (up_kk _ _ _ _ _ (by omega)) (up_kk _ _ _ _ _ (by omega))
    | inr y =>
      rw [r] at c2
      refine ⟨CR.eqv (r := .inr y) c2 (up_kk _ _ _ _ _ (by omega)) (up_kk _ _ _ _ _ (by omega)) (up_kk _ _ _ _ _ (by omega)), ?_, fun v hv => ?_⟩
      · dsimp only
        rw [m3]
        exact (nr.eqv' (h' := h1) hkn (fun q' _ _ => q.1 q' (by omega))).lines
      · dsimp only at hv ⊢
        rw [un_n (by omega)] at hv
        rw [up_kk _ _ _ _ _ (by omega), up_kk _ _ _ _ _ (by omega), q.1 5 (by omega), q.1 6 (by omega)]
        exact ca v hv
theorem y_read {T kn F n : Nat} {t : Nat → Nat} {h : Hp} (hkn : ce_isNet kn) (tc : TC h T t) (hn : n ≤ 700) (pn : Pn t T n) (fn : Fin_ (lnP t T n)) (hF : 1000 ≤ F) : Ev (f8_read F kn h) (fun h' => FrD kn h h' ∧ CSt h' kn T t (lnP t T n)) := by
  have bn := net_le hkn
  have hT := tc.1
  have n1 : ¬ (nI 1 : Int32) = 0 := by decide
  unfold f8_read
  refine Ev.bind (y_clear hkn hF) (fun h1 q1 => ?_)
  obtain ⟨f1, nr1⟩ := q1
  have tc1 : TC h1 T t := tc.eqv (f1 2 (by omega)) (f1 3 (by omega))
  refine Ev.bind (y_begin tc1 hF) (fun h2 q2 => ?_)
  obtain ⟨f2, c2⟩ := q2
  refine Ev.bind (P := fun h' => FrD kn h h' ∧ CSt h' kn T t (lnP t T n)) ?_ (fun o ho => Ev.some ho)
  refine Ev.it (I := fun i st => st.1 = nI i ∧ FrD kn h st.2 ∧ CSt st.2 kn T t (lnP t T i)) _ n ?_ F 0 _ (by omega) (by omega) ⟨rfl, ?_, ?_⟩
  rotate_left
  · intro q a b d e
    dsimp only
    rw [f2 q a, f1 q e]
  · refine ⟨c2, ?_, fun v hv => absurd hv (Nat.not_lt_zero v)⟩
    exact nr1.eqv' (h' := h2) hkn (fun q _ _ => f2 q (by omega))
  rintro i ⟨x3, h3⟩ hi hI
  obtain ⟨rfl, f3, c3⟩ : x3 = nI i ∧ FrD kn h h3 ∧ CSt h3 kn T t (lnP t T i) := hI
  show Ev (f8_read_b10 F kn (nI i) h3) _
  have nxt : nI i + (1 : Int32) = nI (i + 1) := nI_1 _
  unfold f8_read_b10
  rw [nxt]
  by_cases i7 : 700 ≤ i
  · have ei : i = n := by omega
    rw [ei] at c3
    exact Ev.pos (by simp (disch := omega) only [up_s, up_k, up_j, mm_neg, mm_def, ni_lt, ni_le, ni_eq, ni_mm, mm_ni, ni_lt_mm, ni_le_mm, mm_lt_ni, mm_le_ni, mm_lt_mm, mm_le_mm, ni_cl, ni_in, nI_add, ni_mul, ni_div, ni_rem, ni_rem2, fr_sub, fr_mm, fr_ge0, fr_lt0, fr_inj, l32_0, l32_1, l32_2, l32_3, l32_4, l32_5, l32_6, l32_7, l32_8, l32_9, l32_10, l32_11, l32_12, l32_13, l32_14, l32_15, l32_16, l32_20, l32_24, l32_25, l32_26, l32_31, l32_32, l32_34, l32_35, l32_39, l32_40, l32_44, l32_45, l32_46, l32_47, l32_48, l32_49, l32_57, l32_58, l32_59, l32_63, l32_64, l32_85, l32_90, l32_97, l32_99, l32_100, l32_110, l32_112, l32_122, l32_124, l32_125, l32_255, l32_680, l32_699, l32_700, l32_999, l32_2500, l32_99999, l32_100000, l32_1000000, if_true, if_false, ite_true, ite_false, ce_nm, Option.bind, if_pos, if_neg]; exact i7) (Ev.some ⟨f3, c3⟩)
  refine Ev.neg (by simp (disch := omega) only [up_s, up_k, up_j, mm_neg, mm_def, ni_lt, ni_le, ni_eq, ni_mm, mm_ni, ni_lt_mm, ni_le_mm, mm_lt_ni, mm_le_ni, mm_lt_mm, mm_le_mm, ni_cl, ni_in, nI_add, ni_mul, ni_div, ni_rem, ni_rem2, fr_sub, fr_mm, fr_ge0, fr_lt0, fr_inj, l32_0, l32_1, l32_2, l32_3, l32_4, l32_5, l32_6, l32_7, l32_8, l32_9, l32_10, l32_11, l32_12, l32_13, l32_14, l32_15, l32_16, l32_20, l32_24, l32_25, l32_26, l32_31, l32_32, l32_34, l32_35, l32_39, l32_40, l32_44, l32_45, l32_46, l32_47, l32_48, l32_49, l32_57, l32_58, l32_59, l32_63, l32_64, l32_85, l32_90, l32_97, l32_99, l32_100, l32_110, l32_112, l32_122, l32_124, l32_125, l32_255, l32_680, l32_699, l32_700, l32_999, l32_2500, l32_99999, l32_100000, l32_1000000, if_true, if_false, ite_true, ite_false, ce_nm, Option.bind, if_pos, if_neg]; exact i7) ?_
  by_cases ei : i = n
  · -- the end
    rw [ei] at c3
    have go : f6_goesOn F h3 = some (0, h3) := by
      refine Ev.eq ?_
      unfold f6_goesOn
      cases r : lnP t T n with
      | inl f =>
        rw [r] at c3
        have c3' : CR h3 T t (.inl f) := c3
        rw [x_fine1 c3'.bad]
        exact ev_bs (Ev.pos rfl (Ev.some rfl))
      | inr s =>
        rw [r] at c3 fn
        have k0 : s.1.2.2 = 0 := fn
        rw [x_fine0 c3.1.1.2.2.1]
        exact ev_bs (Ev.neg n1 (Ev.pos (by dsimp only; rw [c3.1.1.2.1.2.2, k0]; rfl) (Ev.some rfl)))
    rw [go]
    exact ev_bs (Ev.pos rfl (Ev.some ⟨f3, c3⟩))
  · obtain ⟨s, es, k0⟩ := pn i (by omega)
    have is := lnP_is hT i (fun j hj => pn j (by omega)) s es
    obtain ⟨ix, le, on, m3, m4, oa, c15, z⟩ := id is
    have nx : lnP t T (i + 1) = bnd (lineB t T s) (lineS t T) := by rw [lnP_s, es]; rfl
    rw [es] at c3
    obtain ⟨cr, nr, ca⟩ := c3
    have kl := cr.1.2.2.2.2.2.1
    have go : f6_goesOn F h3 = some (1, h3) := by
      refine Ev.eq ?_
      unfold f6_goesOn
      rw [x_fine0 cr.1.2.2.1]
      exact ev_bs (Ev.neg n1 (Ev.neg (by dsimp only; rw [cr.1.2.1.2.2, l32_0, ni_eq (by omega) (by omega)]; exact k0) (Ev.some rfl)))
    rw [go]
    refine ev_bs (Ev.neg (by decide : ¬ (1 : Int32) = 0) ?_)
    dsimp only
    have lb3 : ∀ u, lineB t T s = .inr u → u.2.1 3 = i := fun u hu => (lineB_is is hu).2.2.2.1
    have tail : ∀ (Q : (Int32 × Hp) ⊕ Hp → Prop), (∀ h', FrD kn h h' → CSt h' kn T t (lnP t T (i + 1)) → Q (.inl (nI (i + 1), h'))) → ∀ h4, FrD kn h3 h4 → CSt h4 kn T t (lineB t T s) → Ev (Option.bind (f6_takeSign F h4) (fun o79 => ce_nm (hp_up o79 kn 0 (nI (i + 1))) (fun h_86 => some (Sum.inl (nI (i + 1), h_86))))) Q := fun Q k h4 f4 c4 => by
      refine Ev.bind (y_lineS hkn c4 lb3 hF) (fun h5 q5 => Ev.nm (Ev.some (k _ ?_ ?_)))
      · intro q a b d e
        rw [up_kk _ _ _ _ _ (by omega), q5.1 q a, f4 q a b d e]
        exact f3 q a b d e
      · rw [nx]
        exact q5.2
    by_cases i0 : i = 0
    · refine Ev.pos (by rw [i0]; rfl) (Ev.bind (y_readBus cr hkn hF) (fun h4 q4 => tail _ (fun h' a b => ⟨by omega, rfl, a, b⟩) h4 ?_ ?_))
      · intro q a b d e
        exact q4.1 q a (by omega)
      · have lb : lineB t T s = bnd (b3 t T (.inr s.1)) (fun y => .inr (y, un (un s.2.1 0 (vN t (b1 t T (.inr s.1)))) 1 (vN t (b2 t T (.inr s.1))), s.2.2)) := by unfold lineB; rw [if_pos (by omega)]
        rw [lb]
        obtain ⟨g1, g2, c4, v4⟩ := q4
        cases r : b3 t T (.inr s.1) with
        | inl f => rw [r] at c4; exact c4
        | inr y =>
          rw [r] at c4
          obtain ⟨w1, w2⟩ := v4 y r
          refine ⟨c4, nr.bus (fun q a b => g1 q (by omega) (by omega)) g2 w1 w2, fun v hv => ?_⟩
          dsimp only at hv ⊢
          rw [un_n (by omega), un_n (by omega)] at hv
          rw [g1 5 (by omega) (by omega), g1 6 (by omega) (by omega)]
          exact ca v hv
    · refine Ev.neg (by simp (disch := omega) only [up_s, up_k, up_j, mm_neg, mm_def, ni_lt, ni_le, ni_eq, ni_mm, mm_ni, ni_lt_mm, ni_le_mm, mm_lt_ni, mm_le_ni, mm_lt_mm, mm_le_mm, ni_cl, ni_in, nI_add, ni_mul, ni_div, ni_rem, ni_rem2, fr_sub, fr_mm, fr_ge0, fr_lt0, fr_inj, l32_0, l32_1, l32_2, l32_3, l32_4, l32_5, l32_6, l32_7, l32_8, l32_9, l32_10, l32_11, l32_12, l32_13, l32_14, l32_15, l32_16, l32_20, l32_24, l32_25, l32_26, l32_31, l32_32, l32_34, l32_35, l32_39, l32_40, l32_44, l32_45, l32_46, l32_47, l32_48, l32_49, l32_57, l32_58, l32_59, l32_63, l32_64, l32_85, l32_90, l32_97, l32_99, l32_100, l32_110, l32_112, l32_122, l32_124, l32_125, l32_255, l32_680, l32_699, l32_700, l32_999, l32_2500, l32_99999, l32_100000, l32_1000000, if_true, if_false, ite_true, ite_false, ce_nm, Option.bind, if_pos, if_neg]; exact i0) ?_
      have m30 : ¬ s.2.1 3 = 0 := by omega
      rw [x_cisWord cr.1 (by omega : 3 < 9) hF]
      refine ev_bs ?_
      dsimp only
      by_cases w3 : bo (isW t 3 s.1) = true
      · have lb : lineB t T s = nodeP t T s.1 s.2.1 s.2.2 := by unfold lineB; rw [if_neg m30, if_pos w3]
        refine Ev.neg (by rw [if_pos w3]; decide) (Ev.bind (y_readNode cr ix (bo_t.mp w3) hkn nr on.1.2.1 oa ca hF) (fun h4 q4 => tail _ (fun h' a b => ⟨by omega, rfl, a, b⟩) h4 q4.1 ?_))
        rw [lb]
        exact q4.2
      · refine Ev.pos (by rw [if_neg w3]; rfl) ?_
        rw [x_cisWord cr.1 (by omega : 4 < 9) hF]
        refine ev_bs ?_
        dsimp only
        by_cases w4 : bo (isW t 4 s.1) = true
        · have lb : lineB t T s = cableP t T s.1 s.2.1 s.2.2 := by unfold lineB; rw [if_neg m30, if_neg w3, if_pos w4]
          refine Ev.neg (by rw [if_pos w4]; decide) (Ev.bind (y_readCable cr (bo_t.mp w4) hkn nr on oa ca hF) (fun h4 q4 => tail _ (fun h' a b => ⟨by omega, rfl, a, b⟩) h4 q4.1 ?_))
          rw [lb]
          exact q4.2
        · have lb : lineB t T s = .inl (1, s.1.1) := by unfold lineB; rw [if_neg m30, if_neg w3, if_neg w4]
          refine Ev.pos (by rw [if_neg w4]; rfl) (Ev.bind (y_refuse (k := 1) cr.1 (by omega)) (fun h4 q4 => tail _ (fun h' a b => ⟨by omega, rfl, a, b⟩) h4 q4.1.fd ?_))
          rw [lb]
          exact q4.2
