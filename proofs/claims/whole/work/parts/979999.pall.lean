-- packets one by one; the reference reads them
noncomputable def pkS (t : Nat → Nat) (T : Nat) (u : Pk) : Rs Pk := bnd (pS t T u.1) (fun y => .inr (y, u.2))
noncomputable def ptP (t : Nat → Nat) (T : Nat) : Nat → Rs Pk
  | 0 => .inr (tn t T 0, 0, 0, fun _ => 0, fun _ => 0)
  | n + 1 => bnd (ptP t T n) (fun s => bnd (pkP t T s) (pkS t T))
theorem ptP_s (t : Nat → Nat) (T n : Nat) : ptP t T (n + 1) = bnd (ptP t T n) (fun s => bnd (pkP t T s) (pkS t T)) := rfl
def Qn (t : Nat → Nat) (T n : Nat) : Prop := ∀ i, i < n → ∃ s, ptP t T i = .inr s ∧ s.1.2.2 ≠ 0
def FinQ (r : Rs Pk) : Prop := match r with
  | .inl _ => True
  | .inr s => s.1.2.2 = 0
theorem okL.zero : okL 0 (fun _ => 0) (fun _ => 0) := ⟨by omega, fun i hi => absurd hi (Nat.not_lt_zero i), gA.zero _ _⟩
theorem ptP_is {t : Nat → Nat} {T : Nat} : ∀ n, Qn t T n → ∀ s, ptP t T n = .inr s → PI t T n s := by
  intro n
  induction n with
  | zero =>
    intro _ s e
    cases e
    exact ⟨(tn_isT t T (Nat.zero_le _)).1, Nat.zero_le _, Nat.zero_le _, okL.zero⟩
  | succ n ih =>
    intro p s e
    obtain ⟨u, e1, k0⟩ := p n (by omega)
    rw [ptP_s, e1] at e
    have e' : bnd (pkP t T u) (pkS t T) = .inr s := e
    obtain ⟨v, e2, e3⟩ := bnd_inr e'
    have pu := ih (fun i hi => p i (by omega)) u e1
    have pv := pkP_is pu e2
    obtain ⟨y, e4, e5⟩ := bnd_inr e3
    cases e5
    obtain ⟨i2, l2⟩ := pS_up pv.1 e4
    have a := pu.2.1
    have b := pv.2.1
    exact ⟨i2, by dsimp only; omega, pv.2.2.1, pv.2.2.2⟩
theorem ptP_ends {t : Nat → Nat} {T : Nat} (hT : T ≤ 700) : ∃ n, n ≤ 700 ∧ Qn t T n ∧ FinQ (ptP t T n) := by
  apply Classical.byContradiction
  intro no
  have all : ∀ n, n ≤ 701 → Qn t T n := by
    intro n
    induction n with
    | zero => intro _ i hi; omega
    | succ n ih =>
      intro hn i hi
      have pn := ih (by omega)
      by_cases q : i = n
      · rw [q]
        cases r : ptP t T n with
        | inl f => exact absurd ⟨n, by omega, pn, by rw [r]; trivial⟩ no
        | inr s =>
          refine ⟨s, rfl, fun k => no ⟨n, by omega, pn, ?_⟩⟩
          rw [r]
          exact k
      · exact pn i (by omega)
  obtain ⟨s, e, k0⟩ := all 701 (by omega) 700 (by omega)
  have h := ptP_is 700 (fun i hi => all 701 (by omega) i (by omega)) s e
  have le := h.2.1
  have lt := h.1.ok.2.2.2 k0
  have lT := h.1.ok.2.2.1
  omega
/-- a text with packets and without a root -/
noncomputable def pfin (r : Rs Pk) : Rs Pk := bnd r (fun s => if 0 < s.2.1 ∧ s.2.2.1 = 0 then .inl (4, s.1.1) else .inr s)
theorem y_refBad {T F : Nat} {t : Nat → Nat} {h : Hp} {f : Nat × Nat} {x : Int32} (c : CR h T t (.inl f)) : f6_refuse F x h = some h := by
  refine Ev.eq ?_
  unfold f6_refuse
  rw [x_fine1 c.bad]
  exact ev_bs (Ev.pos rfl (Ev.some rfl))
theorem y_pread {T k F n : Nat} {t : Nat → Nat} {h : Hp} (hk : ce_isTold k) (tc : TC h T t) (hn : n ≤ 700) (pn : Qn t T n) (fn : FinQ (ptP t T n)) (hF : 1000 ≤ F) : Ev (f9_read F k h) (fun h' => FrQ k h h' ∧ CPk h' k T t (pfin (ptP t T n))) := by
  have bn := told_le hk
  have hT := tc.1
  have n1 : ¬ (nI 1 : Int32) = 0 := by decide
  unfold f9_read
  refine Ev.nm (Ev.nm (Ev.nm ?_))
  obtain ⟨h1, eh1⟩ : ∃ h1, h1 = hp_up (hp_up (hp_up h k 0 (0 : Int32)) k 7 (0 : Int32)) k 8 (0 : Int32) := ⟨_, rfl⟩
  rw [← eh1]
  have f1 : ∀ q, q ≠ k → h1 q = h q := fun c hc => by rw [eh1, up_kk _ _ _ _ _ hc, up_kk _ _ _ _ _ hc, up_kk _ _ _ _ _ hc]
  have s8 : h1 k 8 = nI 0 := by rw [eh1, up_s]; rfl
  have s7 : h1 k 7 = nI 0 := by rw [eh1, up_j _ _ _ _ _ (by omega), up_s]; rfl
  have s0 : h1 k 0 = nI 0 := by rw [eh1, up_j _ _ _ _ _ (by omega), up_j _ _ _ _ _ (by omega), up_s]; rfl
  clear eh1
  have tc1 : TC h1 T t := tc.eqv (f1 2 (by omega)) (f1 3 (by omega))
  refine Ev.bind (y_begin tc1 hF) (fun h2 q2 => ?_)
  obtain ⟨f2, c2⟩ := q2
  refine Ev.bind (P := fun h' => FrQ k h h' ∧ CPk h' k T t (ptP t T n)) ?_ (fun h3 q3 => ?_)
  · refine Ev.it (I := fun i st => st.1 = nI i ∧ FrQ k h st.2 ∧ CPk st.2 k T t (ptP t T i)) _ n ?_ F 0 _ (by omega) (by omega) ⟨rfl, ?_, ?_⟩
    rotate_left
    · intro q a b
      dsimp only
      rw [f2 q a, f1 q (by omega)]
    · refine ⟨c2, ?_, ?_, ?_, fun j hj => absurd hj (Nat.not_lt_zero j), fun i hi => absurd hi (Nat.not_lt_zero i), fun i hi => absurd hi (Nat.not_lt_zero i), fun i hi => absurd hi (Nat.not_lt_zero i)⟩
      · dsimp only; rw [f2 k (by omega)]; exact s0
      · dsimp only; rw [f2 k (by omega)]; exact s8
      · dsimp only; rw [f2 k (by omega)]; exact s7
    rintro i ⟨x3, h3⟩ hi hI
    obtain ⟨rfl, f3, c3⟩ : x3 = nI i ∧ FrQ k h h3 ∧ CPk h3 k T t (ptP t T i) := hI
    show Ev (f9_read_b21 F k (nI i) h3) _
    have nxt : nI i + (1 : Int32) = nI (i + 1) := nI_1 _
    unfold f9_read_b21
    rw [nxt]
    by_cases i7 : 700 ≤ i
    · have ei : i = n := by omega
      rw [ei] at c3
      exact Ev.pos (by simp (disch := omega) only [up_s, up_k, up_j, mm_neg, mm_def, ni_lt, ni_le, ni_eq, ni_mm, mm_ni, ni_lt_mm, ni_le_mm, mm_lt_ni, mm_le_ni, mm_lt_mm, mm_le_mm, ni_cl, ni_in, nI_add, ni_mul, ni_div, ni_rem, ni_rem2, fr_sub, fr_mm, fr_ge0, fr_lt0, fr_inj, l32_0, l32_1, l32_2, l32_3, l32_4, l32_5, l32_6, l32_7, l32_8, l32_9, l32_10, l32_11, l32_12, l32_13, l32_14, l32_15, l32_16, l32_20, l32_24, l32_25, l32_26, l32_31, l32_32, l32_34, l32_35, l32_39, l32_40, l32_44, l32_45, l32_46, l32_47, l32_48, l32_49, l32_57, l32_58, l32_59, l32_63, l32_64, l32_85, l32_90, l32_97, l32_99, l32_100, l32_110, l32_112, l32_122, l32_124, l32_125, l32_255, l32_680, l32_699, l32_700, l32_999, l32_2500, l32_99999, l32_100000, l32_1000000, if_true, if_false, ite_true, ite_false, ce_nm, Option.bind, if_pos, if_neg]; exact i7) (Ev.some ⟨f3, c3⟩)
    refine Ev.neg (by simp (disch := omega) only [up_s, up_k, up_j, mm_neg, mm_def, ni_lt, ni_le, ni_eq, ni_mm, mm_ni, ni_lt_mm, ni_le_mm, mm_lt_ni, mm_le_ni, mm_lt_mm, mm_le_mm, ni_cl, ni_in, nI_add, ni_mul, ni_div, ni_rem, ni_rem2, fr_sub, fr_mm, fr_ge0, fr_lt0, fr_inj, l32_0, l32_1, l32_2, l32_3, l32_4, l32_5, l32_6, l32_7, l32_8, l32_9, l32_10, l32_11, l32_12, l32_13, l32_14, l32_15, l32_16, l32_20, l32_24, l32_25, l32_26, l32_31, l32_32, l32_34, l32_35, l32_39, l32_40, l32_44, l32_45, l32_46, l32_47, l32_48, l32_49, l32_57, l32_58, l32_59, l32_63, l32_64, l32_85, l32_90, l32_97, l32_99, l32_100, l32_110, l32_112, l32_122, l32_124, l32_125, l32_255, l32_680, l32_699, l32_700, l32_999, l32_2500, l32_99999, l32_100000, l32_1000000, if_true, if_false, ite_true, ite_false, ce_nm, Option.bind, if_pos, if_neg]; exact i7) ?_
    by_cases ei : i = n
    · rw [ei] at c3
      have go : f6_goesOn F h3 = some (0, h3) := by
        refine Ev.eq ?_
        unfold f6_goesOn
        cases r : ptP t T n with
        | inl f =>
          rw [r] at c3
          have c3' : CR h3 T t (.inl f) := c3
          rw [x_fine1 c3'.bad]
          exact ev_bs (Ev.pos rfl (Ev.some rfl))
        | inr s =>
          rw [r] at c3 fn
          have k0 : s.1.2.2 = 0 := fn
          rw [x_fine0 c3.1.1.2.2.1]
          exact ev_bs (Ev.neg n1 (Ev.pos (by dsimp only; rw [c3.1.1.2.1.2.2, k0]; rfl) (Ev.some rfl)))
      rw [go]
      exact ev_bs (Ev.pos rfl (Ev.some ⟨f3, c3⟩))
    · obtain ⟨s, es, k0⟩ := pn i (by omega)
      have is := ptP_is i (fun j hj => pn j (by omega)) s es
      have nx : ptP t T (i + 1) = bnd (pkP t T s) (pkS t T) := by rw [ptP_s, es]; rfl
      rw [es] at c3
      have cr := c3.1
      have kl := cr.1.2.2.2.2.2.1
      have go : f6_goesOn F h3 = some (1, h3) := by
        refine Ev.eq ?_
        unfold f6_goesOn
        rw [x_fine0 cr.1.2.2.1]
        exact ev_bs (Ev.neg n1 (Ev.neg (by dsimp only; rw [cr.1.2.1.2.2, l32_0, ni_eq (by omega) (by omega)]; exact k0) (Ev.some rfl)))
      rw [go]
      refine ev_bs (Ev.neg (by decide : ¬ (1 : Int32) = 0) (Ev.bind (y_readPacket hk c3 is hF) (fun h4 q4 => ?_)))
      obtain ⟨f4, c4⟩ := q4
      cases r : pkP t T s with
      | inl f =>
        rw [r] at c4 nx
        have c4' : CR h4 T t (.inl f) := c4
        refine Ev.bind (y_takeSign c4' hF) (fun h5 q5 => Ev.some ⟨by omega, rfl, (f3.trans f4).trans q5.1.fq, ?_⟩)
        dsimp only
        rw [nx]
        exact q5.2
      | inr u =>
        rw [r] at c4 nx
        obtain ⟨c5, e0, e8, tk⟩ := c4
        refine Ev.bind (y_takeSign c5 hF) (fun h5 q5 => Ev.some ⟨by omega, rfl, (f3.trans f4).trans q5.1.fq, ?_⟩)
        dsimp only
        rw [nx]
        show CPk h5 k T t (pkS t T u)
        have c6 : CR h5 T t (pS t T u.1) := q5.2
        unfold pkS
        cases r2 : pS t T u.1 with
        | inl f => rw [r2] at c6; exact c6
        | inr y =>
          rw [r2] at c6
          refine ⟨c6, ?_, ?_, ?_⟩
          · rw [q5.1 k (by omega)]; exact e0
          · rw [q5.1 k (by omega)]; exact e8
          · exact tk.eqv (fun q a b => q5.1 q (by omega)) (by rw [q5.1 k (by omega)])
  · obtain ⟨f3, c3⟩ := q3
    cases r : ptP t T n with
    | inl f =>
      rw [r] at c3
      have c3' : CR h3 T t (.inl f) := c3
      have ef : pfin (.inl f) = .inl f := rfl
      rw [ef]
      refine Ev.ite (fun _ => Ev.some ⟨f3, c3⟩) (fun _ => Ev.ite (fun _ => ?_) (fun _ => Ev.some ⟨f3, c3⟩))
      rw [y_refBad c3']
      exact ev_bs (Ev.some ⟨f3, c3⟩)
    | inr s =>
      rw [r] at c3
      have is := ptP_is n pn s r
      have n12 := is.2.2.2.1
      have r1 := is.2.2.1
      obtain ⟨cr, e0, e8, tk⟩ := id c3
      have ef : pfin (.inr s) = if 0 < s.2.1 ∧ s.2.2.1 = 0 then .inl (4, s.1.1) else .inr s := rfl
      by_cases z : s.2.1 ≤ 0
      · have ef' : pfin (.inr s) = .inr s := by rw [ef, if_neg (fun q => absurd q.1 (by omega))]
        rw [ef']
        exact Ev.pos (by rw [e0]; simp (disch := omega) only [up_s, up_k, up_j, mm_neg, mm_def, ni_lt, ni_le, ni_eq, ni_mm, mm_ni, ni_lt_mm, ni_le_mm, mm_lt_ni, mm_le_ni, mm_lt_mm, mm_le_mm, ni_cl, ni_in, nI_add, ni_mul, ni_div, ni_rem, ni_rem2, fr_sub, fr_mm, fr_ge0, fr_lt0, fr_inj, l32_0, l32_1, l32_2, l32_3, l32_4, l32_5, l32_6, l32_7, l32_8, l32_9, l32_10, l32_11, l32_12, l32_13, l32_14, l32_15, l32_16, l32_20, l32_24, l32_25, l32_26, l32_31, l32_32, l32_34, l32_35, l32_39, l32_40, l32_44, l32_45, l32_46, l32_47, l32_48, l32_49, l32_57, l32_58, l32_59, l32_63, l32_64, l32_85, l32_90, l32_97, l32_99, l32_100, l32_110, l32_112, l32_122, l32_124, l32_125, l32_255, l32_680, l32_699, l32_700, l32_999, l32_2500, l32_99999, l32_100000, l32_1000000, if_true, if_false, ite_true, ite_false, ce_nm, Option.bind, if_pos, if_neg]; exact z) (Ev.some ⟨f3, c3⟩)
      · refine Ev.neg (by rw [e0]; simp (disch := omega) only [up_s, up_k, up_j, mm_neg, mm_def, ni_lt, ni_le, ni_eq, ni_mm, mm_ni, ni_lt_mm, ni_le_mm, mm_lt_ni, mm_le_ni, mm_lt_mm, mm_le_mm, ni_cl, ni_in, nI_add, ni_mul, ni_div, ni_rem, ni_rem2, fr_sub, fr_mm, fr_ge0, fr_lt0, fr_inj, l32_0, l32_1, l32_2, l32_3, l32_4, l32_5, l32_6, l32_7, l32_8, l32_9, l32_10, l32_11, l32_12, l32_13, l32_14, l32_15, l32_16, l32_20, l32_24, l32_25, l32_26, l32_31, l32_32, l32_34, l32_35, l32_39, l32_40, l32_44, l32_45, l32_46, l32_47, l32_48, l32_49, l32_57, l32_58, l32_59, l32_63, l32_64, l32_85, l32_90, l32_97, l32_99, l32_100, l32_110, l32_112, l32_122, l32_124, l32_125, l32_255, l32_680, l32_699, l32_700, l32_999, l32_2500, l32_99999, l32_100000, l32_1000000, if_true, if_false, ite_true, ite_false, ce_nm, Option.bind, if_pos, if_neg]; exact z) ?_
        by_cases w : s.2.2.1 = 0
        · have ef' : pfin (.inr s) = .inl (4, s.1.1) := by rw [ef, if_pos ⟨by omega, w⟩]
          rw [ef']
          refine Ev.pos (by rw [e8, w]; rfl) (Ev.bind (y_refuse (k := 4) cr.1 (by omega)) (fun h4 q4 => Ev.some ⟨f3.trans q4.1.fq, q4.2⟩))
        · have ef' : pfin (.inr s) = .inr s := by rw [ef, if_neg (fun q => w q.2)]
          rw [ef']
          exact Ev.neg (by rw [e8, l32_0, ni_eq (by omega) (by omega)]; exact w) (Ev.some ⟨f3, c3⟩)
-- the reference
def FrU (h h' : Hp) : Prop := (∀ q, q ≠ 68 → q ≠ 88 → q ≠ 89 → q ≠ 93 → h' q = h q) ∧ ∀ j, (j < 4 ∨ (12 < j ∧ j < 32)) → h' 68 j = h 68 j
theorem FrU.refl (h : Hp) : FrU h h := ⟨fun _ _ _ _ _ => rfl, fun _ _ => rfl⟩
theorem FrU.trans {h1 h2 h3 : Hp} (a : FrU h1 h2) (b : FrU h2 h3) : FrU h1 h3 := ⟨fun q n1 n2 n3 n4 => (b.1 q n1 n2 n3 n4).trans (a.1 q n1 n2 n3 n4), fun j hj => (b.2 j hj).trans (a.2 j hj)⟩
theorem FrS.fu {h h' : Hp} (f : FrS h h') : FrU h h' := ⟨fun q a _ _ _ => f.1 q a, fun j hj => f.2 j (by omega)⟩
noncomputable def MPk (h : Hp) (T : Nat) (t : Nat → Nat) (r : Rs Pk) : Prop := match r with
  | .inl f => MR h T t (.inl f)
  | .inr s => MR h T t (.inr s.1) ∧ h 68 32 = nI s.2.1 ∧ h 68 37 = nI (bld s.2.2.2.1 s.2.2.2.2 s.2.1).1 ∧ h 68 38 = nI s.2.2.1 ∧ ∀ i, i < s.2.1 → h 88 i = nI (s.2.2.2.1 i) ∧ ∀ p, p < s.2.2.2.1 i → h 89 (4 * i + p) = nI (s.2.2.2.2 (4 * i + p))
theorem MR.eqv2 {h h' : Hp} {T : Nat} {t : Nat → Nat} {r : Rs Tok} (c : MR h T t r) (f1 : ∀ j, j ≤ 11 → h' 68 j = h 68 j) (f2 : h' 72 = h 72) : MR h' T t r := by
  have tme : TM h T t → TM h' T t := fun q => by unfold TM; rw [f1 4 (by omega), f2]; exact q
  cases r with
  | inl f =>
    obtain ⟨a, b, d, e⟩ := c
    exact ⟨tme a, by rw [f1 _ (by omega)]; exact b, by rw [f1 _ (by omega)]; exact d, by rw [f1 _ (by omega)]; exact e⟩
  | inr x =>
    obtain ⟨⟨a, ⟨b1, b2, b3, b4⟩, d, e⟩, g1, g2⟩ := c
    exact ⟨⟨tme a, ⟨by rw [f1 _ (by omega)]; exact b1, by rw [f1 _ (by omega)]; exact b2, by rw [f1 _ (by omega)]; exact b3, by rw [f1 _ (by omega)]; exact b4⟩, by rw [f1 _ (by omega)]; exact d, e⟩, by rw [f1 _ (by omega)]; exact g1, by rw [f1 _ (by omega)]; exact g2⟩
theorem z_pk84bad {T F : Nat} {t : Nat → Nat} {h : Hp} {f : Nat × Nat} {x1 x2 : Int32} (c : MR h T t (.inl f)) : f12_readsPacket_j84 F x1 x2 h = some h := by
  refine Ev.eq ?_
  unfold f12_readsPacket_j84
  exact Ev.neg c.bad (Ev.some rfl)
theorem z_readsPacket {T F i : Nat} {t : Nat → Nat} {h : Hp} {s : Pk} (c : MPk h T t (.inr s)) (pi : PI t T i s) (hF : 1000 ≤ F) : Ev (f12_readsPacket F h) (fun h' => FrU h h' ∧ MPk h' T t (pkP t T s)) := by
  obtain ⟨x, n, ro, len, L⟩ := s
  obtain ⟨cr, h32, h37, h38, ml⟩ := c
  obtain ⟨is, le, r1, ok⟩ := pi
  dsimp only at cr h32 h37 h38 ml is le r1 ok
  obtain ⟨tm, ⟨l1, l2, l3, l4'⟩, fine, ⟨o1, o2, o3, o4⟩⟩ := id cr.1
  have hT := tm.1
  have oc := ok.2.2.1
  have on := ok.1
  have pe : pkP t T (x, n, ro, len, L) = if bo (isPk t x) = true then (if (bld len L n).1 < lc t x 3 ∨ (lc t x 2 = 0 ∧ lc t x 3 < (bld len L n).1) then .inl (2, x.1) else if 12 ≤ n ∨ ro ≠ 0 then .inl (3, x.1) else .inr (pkN t T (x, n, ro, len, L))) else .inl (1, x.1) := rfl
  unfold f12_readsPacket
  rw [x_mpk cr.1 hF]
  refine ev_bs ?_
  dsimp only
  by_cases pk : bo (isPk t x) = true
  rotate_left
  · rw [if_neg pk] at pe
    exact Ev.pos (by rw [if_neg pk]; rfl) (Ev.bind (z_faults (k := 1) cr) (fun h1 q => Ev.some ⟨q.1.fu, by rw [pe]; exact q.2⟩))
  · rw [if_pos pk] at pe
    have pkk := bo_t.mp pk
    have b2 := lc_le t x 2
    have b3' := lc_le t x 3
    have l4 := pkk.2.1
    have lx := is.ok.2.2.2 (by have := pkk.1; omega)
    refine Ev.neg (by rw [if_pos pk]; decide) ?_
    rw [show f12_lettersHere F (99 : Int32) h = some (nI (lc t x 3), h) from x_mlet (ch := 99) cr.1 (by omega) (fun c => (ls_v c).1.symm) hF]
    refine ev_bs ?_
    dsimp only
    rw [show f12_lettersHere F (112 : Int32) h = some (nI (lc t x 2), h) from x_mlet (ch := 112) cr.1 (by omega) (fun c => (ls_v c).2.2.symm) hF]
    refine ev_bs ?_
    dsimp only
    generalize hoc : (bld len L n).1 = ocn at h37 oc pe
    have room : ∀ s0 : Nat, s0 ≤ 1 → s0 = (if lc t x 2 = 0 then 1 else 0) → ¬ (ocn < lc t x 3 ∨ (lc t x 2 = 0 ∧ lc t x 3 < ocn)) → Ev (f12_readsPacket_j63 F (nI (lc t x 3)) (nI s0) h) (fun h' => FrU h h' ∧ MPk h' T t (pkP t T (x, n, ro, len, L))) := fun s0 s1 es no => by
      rw [if_neg no] at pe
      have three : pkP t T (x, n, ro, len, L) = .inl (3, x.1) → Ev (f12_readsPacket_j79 F (nI (lc t x 3)) (nI s0) h) (fun h' => FrU h h' ∧ MPk h' T t (pkP t T (x, n, ro, len, L))) := fun e => by
        unfold f12_readsPacket_j79
        refine Ev.bind (z_faults (k := 3) cr) (fun h1 q => ?_)
        have cb : MR h1 T t (.inl (3, x.1)) := q.2
        rw [z_pk84bad cb]
        exact Ev.some ⟨q.1.fu, by rw [e]; exact cb⟩
      unfold f12_readsPacket_j63
      by_cases full : 12 ≤ n
      · exact Ev.pos (by rw [h32, show n = 12 by omega]; rfl) (three (by rw [pe, if_pos (Or.inl full)]))
      · refine Ev.neg (by rw [h32, l32_12, ni_eq (by omega) (by omega)]; omega) ?_
        by_cases r0 : ro = 0
        · rw [if_neg (fun q => by rcases q with q | q; exact full q; exact q r0)] at pe
          have hc : lc t x 3 ≤ (bld len L n).1 := by rw [hoc]; exact Nat.le_of_not_lt (fun q => no (Or.inl q))
          obtain ⟨okn, eb⟩ := ok.next (x := x) (t := t) (by omega) pkk hc
          refine Ev.pos (by rw [h38, r0]; rfl) ?_
          unfold f12_readsPacket_j84
          refine Ev.pos cr.good ?_
          rw [l1]
          refine Ev.bind (P := fun h1 => (∀ q, q ≠ 89 → h1 q = h q) ∧ (∀ j, j < 4 * n → h1 89 j = h 89 j) ∧ ∀ p, p < x.2.1 - x.1 → h1 89 (4 * n + p) = nI (ls (t (x.1 + p)) - 1)) ?_ (fun h1 q1 => ?_)
          · refine Ev.it (I := fun i st => i ≤ x.2.1 - x.1 ∧ st.1 = nI (x.1 + i) ∧ (∀ q, q ≠ 89 → st.2 q = h q) ∧ (∀ j, j < 4 * n → st.2 89 j = h 89 j) ∧ ∀ p, p < i → st.2 89 (4 * n + p) = nI (ls (t (x.1 + p)) - 1)) _ (x.2.1 - x.1) ?_ F 0 _ (by omega) (by omega) ⟨by omega, rfl, fun _ _ => rfl, fun _ _ => rfl, fun p hp => absurd hp (Nat.not_lt_zero p)⟩
            rintro i ⟨x3, h1⟩ hi hI
            obtain ⟨hie, rfl, g1, g2, g3⟩ : i ≤ x.2.1 - x.1 ∧ x3 = nI (x.1 + i) ∧ (∀ q, q ≠ 89 → h1 q = h q) ∧ (∀ j, j < 4 * n → h1 89 j = h 89 j) ∧ ∀ p, p < i → h1 89 (4 * n + p) = nI (ls (t (x.1 + p)) - 1) := hI
            show Ev (f12_readsPacket_b97 F (nI (lc t x 3)) (nI s0) (nI (x.1 + i)) h1) _
            have nxt : nI (x.1 + i) + (1 : Int32) = nI (x.1 + (i + 1)) := nI_1 _
            have g7 : h1 68 7 = nI x.2.1 := by rw [g1 68 (by omega)]; exact l2
            unfold f12_readsPacket_b97
            rw [nxt]
            by_cases z : x.2.1 ≤ x.1 + i
            · refine Ev.pos (by rw [g7]; simp (disch := omega) only [up_s, up_k, up_j, mm_neg, mm_def, ni_lt, ni_le, ni_eq, ni_mm, mm_ni, ni_lt_mm, ni_le_mm, mm_lt_ni, mm_le_ni, mm_lt_mm, mm_le_mm, ni_cl, ni_in, nI_add, ni_mul, ni_div, ni_rem, ni_rem2, fr_sub, fr_mm, fr_ge0, fr_lt0, fr_inj, l32_0, l32_1, l32_2, l32_3, l32_4, l32_5, l32_6, l32_7, l32_8, l32_9, l32_10, l32_11, l32_12, l32_13, l32_14, l32_15, l32_16, l32_20, l32_24, l32_25, l32_26, l32_31, l32_32, l32_34, l32_35, l32_39, l32_40, l32_44, l32_45, l32_46, l32_47, l32_48, l32_49, l32_57, l32_58, l32_59, l32_63, l32_64, l32_85, l32_90, l32_97, l32_99, l32_100, l32_110, l32_112, l32_122, l32_124, l32_125, l32_255, l32_680, l32_699, l32_700, l32_999, l32_2500, l32_99999, l32_100000, l32_1000000, if_true, if_false, ite_true, ite_false, ce_nm, Option.bind, if_pos, if_neg]; exact z) (Ev.some ⟨g1, g2, fun p hp => g3 p (by omega)⟩)
            · obtain ⟨tb, tv⟩ := tm.2.2 (x.1 + i) (by omega)
              have tv' : h1 72 (nI (x.1 + i)).toNatClampNeg = nI (t (x.1 + i)) := by rw [ni_cl (by omega), g1 72 (by omega)]; exact tv
              have ci : ce_in (nI (x.1 + i)) 700 = true := ni_in (by omega) (by omega)
              have ix : (((4 : Int32) * h1 68 32) + nI (x.1 + i)) - h1 68 8 = nI (4 * n + i) := by
                rw [g1 68 (by omega), h32, l1, show (4 : Int32) = nI 4 from rfl, ni_mul, nI_add, ni_sub (by omega)]
                congr 1
                omega
              have cx : ce_in (nI (4 * n + i)) 52 = true := ni_in (by omega) (by omega)
              have lz := pkk.2.2.1 i (by omega)
              have ll := ls_le (t (x.1 + i))
              obtain ⟨v3, v1, v2⟩ := ls_v (t (x.1 + i))
              rw [ix, ni_cl (by omega : 4 * n + i < 2147483648)]
              have fin : ∀ w : Int32, w = nI (ls (t (x.1 + i)) - 1) → i < x.2.1 - x.1 ∧ i + 1 ≤ x.2.1 - x.1 ∧ nI (x.1 + (i + 1)) = nI (x.1 + (i + 1)) ∧ (∀ q, q ≠ 89 → hp_up h1 89 (4 * n + i) w q = h q) ∧ (∀ j, j < 4 * n → hp_up h1 89 (4 * n + i) w 89 j = h 89 j) ∧ ∀ p, p < i + 1 → hp_up h1 89 (4 * n + i) w 89 (4 * n + p) = nI (ls (t (x.1 + p)) - 1) := fun w hw => by
                refine ⟨by omega, by omega, rfl, fun q hq => by rw [up_kk _ _ _ _ _ hq]; exact g1 q hq, fun j hj => by rw [up_j _ _ _ _ _ (by omega)]; exact g2 j hj, fun p hp => ?_⟩
                by_cases pp : p = i
                · rw [pp, up_s]; exact hw
                · rw [up_j _ _ _ _ _ (by omega)]; exact g3 p (by omega)
              refine Ev.neg (by rw [g7]; simp (disch := omega) only [up_s, up_k, up_j, mm_neg, mm_def, ni_lt, ni_le, ni_eq, ni_mm, mm_ni, ni_lt_mm, ni_le_mm, mm_lt_ni, mm_le_ni, mm_lt_mm, mm_le_mm, ni_cl, ni_in, nI_add, ni_mul, ni_div, ni_rem, ni_rem2, fr_sub, fr_mm, fr_ge0, fr_lt0, fr_inj, l32_0, l32_1, l32_2, l32_3, l32_4, l32_5, l32_6, l32_7, l32_8, l32_9, l32_10, l32_11, l32_12, l32_13, l32_14, l32_15, l32_16, l32_20, l32_24, l32_25, l32_26, l32_31, l32_32, l32_34, l32_35, l32_39, l32_40, l32_44, l32_45, l32_46, l32_47, l32_48, l32_49, l32_57, l32_58, l32_59, l32_63, l32_64, l32_85, l32_90, l32_97, l32_99, l32_100, l32_110, l32_112, l32_122, l32_124, l32_125, l32_255, l32_680, l32_699, l32_700, l32_999, l32_2500, l32_99999, l32_100000, l32_1000000, if_true, if_false, ite_true, ite_false, ce_nm, Option.bind, if_pos, if_neg]; exact z) (Ev.grd ci ?_)
              by_cases c1 : t (x.1 + i) = 110
              · exact Ev.pos (by rw [tv', c1]; rfl) (Ev.grd cx (Ev.nm (Ev.some (fin 0 (by rw [v1.mpr c1]; rfl)))))
              · refine Ev.neg (by rw [tv', l32_110, ni_eq (by omega) (by omega)]; exact c1) (Ev.grd ci ?_)
                by_cases c2 : t (x.1 + i) = 112
                · exact Ev.pos (by rw [tv', c2]; rfl) (Ev.grd cx (Ev.nm (Ev.some (fin 1 (by rw [v2.mpr c2]; rfl)))))
                · have e3 : ls (t (x.1 + i)) = 3 := by omega
                  exact Ev.neg (by rw [tv', l32_112, ni_eq (by omega) (by omega)]; exact c2) (Ev.grd cx (Ev.nm (Ev.some (fin 2 (by rw [e3]; rfl)))))
          · obtain ⟨g1, g2, g3⟩ := q1
            have k68 : h1 68 = h 68 := g1 68 (by omega)
            have e32 : h1 68 32 = nI n := by rw [k68]; exact h32
            refine Ev.grd (by rw [e32]; exact ni_in (by omega) (by omega)) (Ev.nm (Ev.nm ?_))
            rw [e32, ni_cl (by omega), k68, l1, l2, ni_sub o1]
            have e37 : hp_up h1 88 n (nI (x.2.1 - x.1)) 68 37 = nI ocn := by rw [up_k _ _ _ _ _ _ (by omega), k68]; exact h37
            have hc' : lc t x 3 ≤ ocn := by rw [← hoc]; exact hc
            rw [e37, ni_sub hc']
            obtain ⟨h2, eh2⟩ : ∃ h2, h2 = hp_up (hp_up h1 88 n (nI (x.2.1 - x.1))) 68 37 (nI (ocn - lc t x 3)) := ⟨_, rfl⟩
            rw [← eh2]
            have k2 : ∀ q, q ≠ 68 → q ≠ 88 → h2 q = h1 q := fun q a b => by rw [eh2, up_kk _ _ _ _ _ a, up_kk _ _ _ _ _ b]
            have j2 : ∀ j, j ≠ 37 → h2 68 j = h 68 j := fun j hj => by rw [eh2, up_j _ _ _ _ _ hj, up_k _ _ _ _ _ _ (by omega), k68]
            have s37 : h2 68 37 = nI (ocn - lc t x 3) := by rw [eh2, up_s]
            have s88 : ∀ i, h2 88 i = if i = n then nI (x.2.1 - x.1) else h 88 i := fun i => by
              rw [eh2, up_k _ _ _ _ _ _ (by omega)]
              by_cases y : i = n
              · rw [y, up_s, if_pos rfl]
              · rw [up_j _ _ _ _ _ y, if_neg y, g1 88 (by omega)]
            clear eh2
            refine Ev.grd (by rw [s37]; exact ni_in (by omega) (by omega)) (Ev.nm (Ev.nm (Ev.nm ?_)))
            rw [s37, ni_cl (by omega), j2 32 (by omega), h32]
            have e37' : hp_up h2 93 (ocn - lc t x 3) (nI n) 68 37 = nI (ocn - lc t x 3) := by rw [up_k _ _ _ _ _ _ (by omega)]; exact s37
            rw [e37', nI_1]
            have e32' : hp_up (hp_up h2 93 (ocn - lc t x 3) (nI n)) 68 37 (nI (ocn - lc t x 3 + 1)) 68 32 = nI n := by rw [up_j _ _ _ _ _ (by omega), up_k _ _ _ _ _ _ (by omega), j2 32 (by omega)]; exact h32
            rw [e32', nI_1]
            refine Ev.grd (by rcases (show s0 = 0 ∨ s0 = 1 by omega) with q | q; exact Or.inl (by rw [q]; rfl); exact Or.inr (by rw [q]; rfl)) (Ev.nm ?_)
            obtain ⟨h3, eh3⟩ : ∃ h3, h3 = hp_up (hp_up (hp_up (hp_up h2 93 (ocn - lc t x 3) (nI n)) 68 37 (nI (ocn - lc t x 3 + 1))) 68 32 (nI (n + 1))) 68 38 (nI s0) := ⟨_, rfl⟩
            rw [← eh3]
            have k3 : ∀ q, q ≠ 68 → q ≠ 93 → h3 q = h2 q := fun q a b => by rw [eh3, up_kk _ _ _ _ _ a, up_kk _ _ _ _ _ a, up_kk _ _ _ _ _ a, up_kk _ _ _ _ _ b]
            have j3 : ∀ j, j ≠ 32 → j ≠ 37 → j ≠ 38 → h3 68 j = h 68 j := fun j a b d => by rw [eh3, up_j _ _ _ _ _ d, up_j _ _ _ _ _ a, up_j _ _ _ _ _ b, up_k _ _ _ _ _ _ (by omega)]; exact j2 j b
            have w38 : h3 68 38 = nI s0 := by rw [eh3, up_s]
            have w32 : h3 68 32 = nI (n + 1) := by rw [eh3, up_j _ _ _ _ _ (by omega), up_s]
            have w37 : h3 68 37 = nI (ocn - lc t x 3 + 1) := by rw [eh3, up_j _ _ _ _ _ (by omega), up_j _ _ _ _ _ (by omega), up_s]
            clear eh3
            have c3 : MR h3 T t (.inr x) := cr.eqv2 (fun j hj => j3 j (by omega) (by omega) (by omega)) (by rw [k3 72 (by omega) (by omega), k2 72 (by omega) (by omega), g1 72 (by omega)])
            refine Ev.bind (z_next c3 hF) (fun h4 q4 => Ev.some ⟨FrU.trans ⟨fun q a b d e => by rw [k3 q a e, k2 q a b, g1 q d], fun j hj => j3 j (by omega) (by omega) (by omega)⟩ q4.1.fu, ?_⟩)
            rw [pe]
            refine ⟨q4.2, ?_, ?_, ?_, fun i hi => ?_⟩
            · show h4 68 32 = nI (n + 1)
              rw [q4.1.2 32 (by omega)]; exact w32
            · show h4 68 37 = nI (bld (un len n (x.2.1 - x.1)) (nL t x n L) (n + 1)).1
              rw [q4.1.2 37 (by omega), w37, bld_s, un_s, eb]
              show nI (ocn - lc t x 3 + 1) = nI ((pkA n (nL t x n L) (x.2.1 - x.1) (inA n (bld len L n))).1 + 1)
              rw [pkA_oc, nL_ct]
              show nI (ocn - lc t x 3 + 1) = nI ((bld len L n).1 - lc t x 3 + 1)
              rw [hoc]
            · show h4 68 38 = nI (if lc t x 2 = 0 then 1 else 0)
              rw [q4.1.2 38 (by omega), w38, es]
            · show h4 88 i = nI (un len n (x.2.1 - x.1) i) ∧ ∀ p, p < un len n (x.2.1 - x.1) i → h4 89 (4 * i + p) = nI (nL t x n L (4 * i + p))
              have hi : i < n + 1 := hi
              rw [q4.1.1 88 (by omega), q4.1.1 89 (by omega), k3 88 (by omega) (by omega), k3 89 (by omega) (by omega), k2 89 (by omega) (by omega), s88 i]
              by_cases y : i = n
              · rw [if_pos y, y, un_s]
                refine ⟨rfl, fun p hp => ?_⟩
                rw [g3 p hp, nL_new hp]
              · obtain ⟨m1, m2⟩ := ml i (by omega)
                have l44 := (ok.2.1 i (by omega)).1
                rw [if_neg y, un_n y]
                refine ⟨m1, fun p hp => ?_⟩
                rw [g2 _ (by omega), nL_old (by omega) (by omega)]
                exact m2 p hp
        · exact Ev.neg (by rw [h38, l32_0, ni_eq (by omega) (by omega)]; exact r0) (three (by rw [pe, if_pos (Or.inr r0)]))
    have two : ∀ s0 : Int32, (ocn < lc t x 3 ∨ (lc t x 2 = 0 ∧ lc t x 3 < ocn)) → Ev (f12_readsPacket_j55 F (nI (lc t x 3)) s0 h) (fun h' => FrU h h' ∧ MPk h' T t (pkP t T (x, n, ro, len, L))) := fun s0 q => by
      rw [if_pos q] at pe
      unfold f12_readsPacket_j55
      refine Ev.bind (z_faults (k := 2) cr) (fun h1 q => ?_)
      have cb : MR h1 T t (.inl (2, x.1)) := q.2
      rw [z_pk84bad cb]
      exact Ev.some ⟨q.1.fu, by rw [pe]; exact cb⟩
    by_cases p0 : lc t x 2 = 0
    · refine Ev.pos (by rw [p0]; rfl) ?_
      unfold f12_readsPacket_j34
      by_cases w : ocn < lc t x 3
      · exact Ev.pos (by rw [h37, ni_lt (by omega) (by omega)]; exact w) (two _ (Or.inl w))
      · refine Ev.neg (by rw [h37, ni_lt (by omega) (by omega)]; exact w) (Ev.neg (by decide) ?_)
        by_cases v : ocn ≤ lc t x 3
        · exact Ev.pos (by rw [h37, ni_le (by omega) (by omega)]; exact v) (room 1 (by omega) (by rw [if_pos p0]) (by omega))
        · exact Ev.neg (by rw [h37, ni_le (by omega) (by omega)]; exact v) (two _ (Or.inr ⟨p0, by omega⟩))
    · refine Ev.neg (by rw [l32_0, ni_eq (by omega) (by omega)]; exact p0) ?_
      unfold f12_readsPacket_j34
      by_cases w : ocn < lc t x 3
      · exact Ev.pos (by rw [h37, ni_lt (by omega) (by omega)]; exact w) (two _ (Or.inl w))
      · exact Ev.neg (by rw [h37, ni_lt (by omega) (by omega)]; exact w) (Ev.pos rfl (room 0 (by omega) (by rw [if_neg p0]) (fun q => by rcases q with q | q; exact w q; exact p0 q.1)))
