-- the class reads a node line
noncomputable def fO (t : Nat → Nat) (x : Tok) : Nat := if bo (isW t 5 x) = true then 1 else 0
noncomputable def x5 (t : Nat → Nat) (T : Nat) (x : Tok) : Tok := if bo (isW t 5 x) = true then tn t T x.2.1 else x
noncomputable def kO (t : Nat → Nat) (T : Nat) (x : Tok) : Nat := if bo (isW t 6 x) = true then (tn t T x.2.1).2.1 - (tn t T x.2.1).1 else 1
noncomputable def wO (t : Nat → Nat) (T : Nat) (x : Tok) : Nat := if bo (isW t 6 x) = true then wC (dg t (tn t T x.2.1)) ((tn t T x.2.1).2.1 - (tn t T x.2.1).1) else 0
noncomputable def nR3 (t : Nat → Nat) (T : Nat) (m : Nat → Nat) (na : Nat → Nat × Nat) (x : Tok) : Rs Tok := bnd (pM t T (m 2) na (tn t T x.2.1)) (pW t T 7)
noncomputable def nR4 (t : Nat → Nat) (T : Nat) (m : Nat → Nat) (na : Nat → Nat × Nat) (x : Tok) : Rs Tok := bnd (nR3 t T m na x) (pN t T 1 4)
noncomputable def nTl (t : Nat → Nat) (T : Nat) (m : Nat → Nat) (na : Nat → Nat × Nat) (x x4 : Tok) : Rs St := bnd (pQ t T (x5 t T x4)) (fun x6 => .inr (x6, addm m (vN t (nR3 t T m na x)) (fO t x4) (kO t T (x5 t T x4)) (wO t T (x5 t T x4)), aN (m 2) na (tn t T x.2.1)))
noncomputable def nodeP (t : Nat → Nat) (T : Nat) (x : Tok) (m : Nat → Nat) (na : Nat → Nat × Nat) : Rs St := if m 2 < 10 then bnd (nR4 t T m na x) (nTl t T m na x) else .inl (3, x.1)
noncomputable def CSt (h : Hp) (kn T : Nat) (t : Nat → Nat) (r : Rs St) : Prop := match r with
  | .inl f => CR h T t (.inl f)
  | .inr s => CR h T t (.inr s.1) ∧ NetR h kn s.2.1 ∧ CA h (s.2.1 2) s.2.2
def FrD (kn : Nat) (h h' : Hp) : Prop := ∀ q, q ≠ 1 → q ≠ 5 → q ≠ 6 → (q < kn ∨ kn + 6 < q) → h' q = h q
theorem FrD.trans {kn : Nat} {h1 h2 h3 : Hp} (a : FrD kn h1 h2) (b : FrD kn h2 h3) : FrD kn h1 h3 := fun q n1 n2 n3 n4 => (b q n1 n2 n3 n4).trans (a q n1 n2 n3 n4)
theorem FrK.fd {kn : Nat} {h h' : Hp} (f : FrK h h') : FrD kn h h' := fun q n1 _ _ _ => f q n1
theorem isW_kO {t : Nat → Nat} {T : Nat} {x z : Tok} (h : isT t T x) (e : pQ t T x = .inr z) : 1 ≤ kO t T x ∧ kO t T x ≤ 8 ∧ wO t T x < 256 ∧ ∃ c, c < 256 ∧ (∀ i, i < kO t T x → c / 2 ^ i % 2 = wO t T x / 2 ^ (kO t T x - 1 - i) % 2) ∧ c = (if bo (isW t 6 x) = true then cC (dg t (tn t T x.2.1)) ((tn t T x.2.1).2.1 - (tn t T x.2.1).1) else 0) := by
  unfold kO wO
  by_cases w : bo (isW t 6 x) = true
  · rw [if_pos w, if_pos w, if_pos w]
    obtain ⟨is, -⟩ := tn_is h
    rw [pQ_R, if_pos w] at e
    obtain ⟨y, hy⟩ : ∃ y, y = tn t T x.2.1 := ⟨_, rfl⟩
    rw [← hy] at e is ⊢
    obtain ⟨ok, y1, y2, y3⟩ := is.ok
    unfold pR at e
    by_cases k2 : y.2.2 = 2
    · rw [if_pos k2] at e
      by_cases oc : okC t y = true
      · have oc' := oc
        unfold okC at oc'
        rw [bo_t] at oc'
        have lt := y3 (by omega)
        obtain ⟨s1, s2, s3⟩ := coins_same (d := dg t y) (n := y.2.1 - y.1) oc'.1 (fun i hi => by
          have := oc'.2 i hi
          unfold dg
          omega)
        exact ⟨by omega, oc'.1, s2, _, s1, s3, rfl⟩
      · rw [if_neg oc] at e; cases e
    · rw [if_neg k2] at e; cases e
  · rw [if_neg w, if_neg w, if_neg w]
    exact ⟨by omega, by omega, by omega, 0, by omega, fun i hi => by rw [Nat.zero_div, Nat.zero_div], rfl⟩
theorem y_readForce {T kn v F : Nat} {t : Nat → Nat} {h : Hp} {x : Tok} (c : CR h T t (.inr x)) (hkn : ce_isNet kn) (hv : v < 10) (hz : h (kn + 2) v = nI 0) (hF : 1000 ≤ F) : Ev (f8_readForce F kn (nI v) h) (fun h' => (∀ q, q ≠ 1 → q ≠ kn + 2 → h' q = h q) ∧ (∀ u, u ≠ v → h' (kn + 2) u = h (kn + 2) u) ∧ CR h' T t (.inr (x5 t T x)) ∧ h' (kn + 2) v = nI (fO t x)) := by
  have bn := net_le hkn
  unfold f8_readForce
  rw [x_cisWord c.1 (by omega : 5 < 9) hF]
  refine ev_bs ?_
  dsimp only
  by_cases w : bo (isW t 5 x) = true
  · have e5 : x5 t T x = tn t T x.2.1 := by unfold x5; rw [if_pos w]
    have ef : fO t x = 1 := by unfold fO; rw [if_pos w]
    rw [e5, ef]
    refine Ev.neg (by rw [if_pos w]; decide) (Ev.grd (ni_in (by omega) hv) (Ev.nm ?_))
    rw [ni_cl (by omega), vpn1]
    have c1 : CR (hp_up h (kn + 2) v (nI 1)) T t (.inr x) := CR.eqv c (up_kk _ _ _ _ _ (by omega)) (up_kk _ _ _ _ _ (by omega)) (up_kk _ _ _ _ _ (by omega))
    refine Ev.bind (y_adv c1.1 c1.2 hF) (fun h' q => Ev.some ⟨fun q' a b => ?_, fun u hu => ?_, q.2, ?_⟩)
    · rw [q.1 q' a, up_kk _ _ _ _ _ b]
    · rw [q.1 (kn + 2) (by omega), up_j _ _ _ _ _ hu]
    · rw [q.1 (kn + 2) (by omega), up_s]
  · have e5 : x5 t T x = x := by unfold x5; rw [if_neg w]
    have ef : fO t x = 0 := by unfold fO; rw [if_neg w]
    rw [e5, ef]
    exact Ev.pos (by rw [if_neg w]; rfl) (Ev.some ⟨fun _ _ _ => rfl, fun _ _ => rfl, c, hz⟩)
theorem nR4_is {t : Nat → Nat} {T : Nat} {m : Nat → Nat} {na : Nat → Nat × Nat} {x x4 : Tok} (h : isT t T x) (e : nR4 t T m na x = .inr x4) : isT t T x4 ∧ x.1 ≤ x4.1 := ((tn_mo h (pM_mo (tn_is h).1)).bnd (fun y hy => pW_mo hy)).bnd (fun y hy => pN_mo hy) x4 e
theorem x5_is {t : Nat → Nat} {T : Nat} {x : Tok} (h : isT t T x) : isT t T (x5 t T x) ∧ x.1 ≤ (x5 t T x).1 := by
  unfold x5
  by_cases w : bo (isW t 5 x) = true
  · rw [if_pos w]; exact tn_is h
  · rw [if_neg w]; exact ⟨h, Nat.le_refl _⟩
theorem y_readNode {T kn F : Nat} {t : Nat → Nat} {h : Hp} {x : Tok} {m : Nat → Nat} {na : Nat → Nat × Nat} (c : CR h T t (.inr x)) (ix : isT t T x) (hW : isW t 3 x) (hkn : ce_isNet kn) (nr : NetR h kn m) (h2 : m 2 ≤ 10) (oa : okA T (m 2) na) (ca : CA h (m 2) na) (hF : 1000 ≤ F) : Ev (f8_readNode F kn h) (fun h' => FrD kn h h' ∧ CSt h' kn T t (nodeP t T x m na)) := by
  have bn := net_le hkn
  have h3 : h kn 3 = nI (m 2) := nr.1.2.1
  unfold f8_readNode nodeP
  by_cases full : m 2 < 10
  rotate_left
  · rw [if_neg full]
    refine Ev.neg (by rw [h3]; simp (disch := omega) only [up_s, up_k, up_j, mm_neg, mm_def, ni_lt, ni_le, ni_eq, ni_mm, mm_ni, ni_lt_mm, ni_le_mm, mm_lt_ni, mm_le_ni, mm_lt_mm, mm_le_mm, ni_cl, ni_in, nI_add, ni_mul, ni_div, ni_rem, ni_rem2, fr_sub, fr_mm, fr_ge0, fr_lt0, fr_inj, l32_0, l32_1, l32_2, l32_3, l32_4, l32_5, l32_6, l32_7, l32_8, l32_9, l32_10, l32_11, l32_12, l32_13, l32_14, l32_15, l32_16, l32_20, l32_24, l32_25, l32_26, l32_31, l32_32, l32_34, l32_35, l32_39, l32_40, l32_44, l32_45, l32_46, l32_47, l32_48, l32_49, l32_57, l32_58, l32_59, l32_63, l32_64, l32_85, l32_90, l32_97, l32_99, l32_100, l32_110, l32_112, l32_122, l32_124, l32_125, l32_255, l32_680, l32_699, l32_700, l32_999, l32_2500, l32_99999, l32_100000, l32_1000000, if_true, if_false, ite_true, ite_false, ce_nm, Option.bind, if_pos, if_neg]; exact full) (Ev.bind (y_refuse (k := 3) c.1 (by omega)) (fun h' q => Ev.some ⟨q.1.fd, q.2⟩))
  · rw [if_pos full]
    refine Ev.pos (by rw [h3]; simp (disch := omega) only [up_s, up_k, up_j, mm_neg, mm_def, ni_lt, ni_le, ni_eq, ni_mm, mm_ni, ni_lt_mm, ni_le_mm, mm_lt_ni, mm_le_ni, mm_lt_mm, mm_le_mm, ni_cl, ni_in, nI_add, ni_mul, ni_div, ni_rem, ni_rem2, fr_sub, fr_mm, fr_ge0, fr_lt0, fr_inj, l32_0, l32_1, l32_2, l32_3, l32_4, l32_5, l32_6, l32_7, l32_8, l32_9, l32_10, l32_11, l32_12, l32_13, l32_14, l32_15, l32_16, l32_20, l32_24, l32_25, l32_26, l32_31, l32_32, l32_34, l32_35, l32_39, l32_40, l32_44, l32_45, l32_46, l32_47, l32_48, l32_49, l32_57, l32_58, l32_59, l32_63, l32_64, l32_85, l32_90, l32_97, l32_99, l32_100, l32_110, l32_112, l32_122, l32_124, l32_125, l32_255, l32_680, l32_699, l32_700, l32_999, l32_2500, l32_99999, l32_100000, l32_1000000, if_true, if_false, ite_true, ite_false, ce_nm, Option.bind, if_pos, if_neg]; exact full) (Ev.bind (y_takeWord c (by omega : 3 < 9) hF) (fun h1 q1 => ?_))
    obtain ⟨f1, c1⟩ := q1
    have pw : bnd (.inr x) (pW t T 3) = .inr (tn t T x.2.1) := by
      show pW t T 3 x = _
      unfold pW
      rw [if_pos (bo_p hW)]
    rw [pw] at c1
    have ca1 : CA h1 (m 2) na := fun v hv => by rw [f1 5 (by omega), f1 6 (by omega)]; exact ca v hv
    refine Ev.bind (y_newName c1 hkn oa ca1 (by rw [f1 kn (by omega)]; exact h3) full hF) (fun h2' q2 => ?_)
    obtain ⟨f2, c2, g2⟩ := q2
    refine Ev.bind (y_takeWord c2 (by omega : 7 < 9) hF) (fun h3' q3 => ?_)
    obtain ⟨f3, c3⟩ := q3
    refine Ev.bind (y_takeNumber (lo := 1) (hi := 4) c3 (by omega) (by omega) hF) (fun o4 q4 => ?_)
    obtain ⟨f4, c4, v4⟩ := q4
    have r4 : bnd (bnd (pM t T (m 2) na (tn t T x.2.1)) (pW t T 7)) (pN t T 1 4) = nR4 t T m na x := rfl
    rw [r4] at c4
    have k4 : ∀ q, q ≠ 1 → q ≠ 5 → q ≠ 6 → o4.2 q = h q := fun q a b d => by rw [f4 q a, f3 q a, f2 q a b d, f1 q a]
    cases r : nR4 t T m na x with
    | inl f =>
      rw [r] at c4
      rw [x_fine1 c4.bad]
      exact ev_bs (Ev.pos rfl (Ev.some ⟨fun q a b d _ => k4 q a b d, c4⟩))
    | inr x4 =>
      rw [r] at c4
      rw [x_fine0 c4.1.2.2.1]
      refine ev_bs (Ev.neg (by decide : ¬ (nI 1 : Int32) = 0) ?_)
      dsimp only
      obtain ⟨is4, -⟩ := nR4_is ix r
      obtain ⟨y3, e3, p3⟩ := bnd_inr r
      obtain ⟨y2, e2, p2⟩ := bnd_inr e3
      obtain ⟨ca2, -⟩ := g2 y2 e2
      have val : o4.1 = nI (vN t (nR3 t T m na x)) := by rw [v4 y3 x4 e3 p3, e3]; rfl
      rw [x_addNode hkn (by rw [k4 kn (by omega) (by omega) (by omega)]; exact h3) full, val]
      obtain ⟨h5, eh5⟩ : ∃ h5, h5 = (hp_up (hp_up (hp_up (hp_up (hp_up o4.2 (kn + 1) (m 2) (nI (vN t (nR3 t T m na x)))) (kn + 2) (m 2) (nI 0)) (kn + 3) (m 2) (nI 0)) (kn + 4) (m 2) (nI 1)) kn 3 (nI (m 2 + 1))) := ⟨_, rfl⟩
      rw [← eh5]
      have k5 : ∀ q, q < kn ∨ kn + 4 < q → h5 q = o4.2 q := fun q hq => by rw [eh5, up_kk _ _ _ _ _ (by omega), up_kk _ _ _ _ _ (by omega), up_kk _ _ _ _ _ (by omega), up_kk _ _ _ _ _ (by omega), up_kk _ _ _ _ _ (by omega)]
      have s3 : h5 kn 3 = nI (m 2 + 1) := by rw [eh5, up_s]
      have s0 : ∀ j, j ≠ 3 → h5 kn j = o4.2 kn j := fun j hj => by rw [eh5, up_j _ _ _ _ _ hj, up_k _ _ _ _ _ _ (by omega), up_k _ _ _ _ _ _ (by omega), up_k _ _ _ _ _ _ (by omega), up_k _ _ _ _ _ _ (by omega)]
      have s4 : h5 (kn + 4) (m 2) = nI 1 ∧ ∀ u, u ≠ m 2 → h5 (kn + 4) u = o4.2 (kn + 4) u := ⟨by rw [eh5, up_k _ _ _ _ _ _ (by omega), up_s], fun u hu => by rw [eh5, up_k _ _ _ _ _ _ (by omega), up_j _ _ _ _ _ hu, up_k _ _ _ _ _ _ (by omega), up_k _ _ _ _ _ _ (by omega), up_k _ _ _ _ _ _ (by omega)]⟩
      have s33 : h5 (kn + 3) (m 2) = nI 0 ∧ ∀ u, u ≠ m 2 → h5 (kn + 3) u = o4.2 (kn + 3) u := ⟨by rw [eh5, up_k _ _ _ _ _ _ (by omega), up_k _ _ _ _ _ _ (by omega), up_s], fun u hu => by rw [eh5, up_k _ _ _ _ _ _ (by omega), up_k _ _ _ _ _ _ (by omega), up_j _ _ _ _ _ hu, up_k _ _ _ _ _ _ (by omega), up_k _ _ _ _ _ _ (by omega)]⟩
      have s22 : h5 (kn + 2) (m 2) = nI 0 ∧ ∀ u, u ≠ m 2 → h5 (kn + 2) u = o4.2 (kn + 2) u := ⟨by rw [eh5, up_k _ _ _ _ _ _ (by omega), up_k _ _ _ _ _ _ (by omega), up_k _ _ _ _ _ _ (by omega), up_s], fun u hu => by rw [eh5, up_k _ _ _ _ _ _ (by omega), up_k _ _ _ _ _ _ (by omega), up_k _ _ _ _ _ _ (by omega), up_j _ _ _ _ _ hu, up_k _ _ _ _ _ _ (by omega)]⟩
      have s11 : h5 (kn + 1) (m 2) = nI (vN t (nR3 t T m na x)) ∧ ∀ u, u ≠ m 2 → h5 (kn + 1) u = o4.2 (kn + 1) u := ⟨by rw [eh5, up_k _ _ _ _ _ _ (by omega), up_k _ _ _ _ _ _ (by omega), up_k _ _ _ _ _ _ (by omega), up_k _ _ _ _ _ _ (by omega), up_s], fun u hu => by rw [eh5, up_k _ _ _ _ _ _ (by omega), up_k _ _ _ _ _ _ (by omega), up_k _ _ _ _ _ _ (by omega), up_k _ _ _ _ _ _ (by omega), up_j _ _ _ _ _ hu]⟩
      clear eh5
      have c5 : CR h5 T t (.inr x4) := c4.eqv (k5 1 (by omega)) (k5 2 (by omega)) (k5 3 (by omega))
      refine ev_bs ?_
      rw [s3, show nI (m 2 + 1) - (1 : Int32) = nI (m 2) by rw [l32_1, ni_sub1 (by omega)]; rfl]
      refine Ev.bind (y_readForce c5 hkn full s22.1 hF) (fun h6 q6 => ?_)
      obtain ⟨f6, g6, c6, v6⟩ := q6
      rw [f6 kn (by omega) (by omega), s3, show nI (m 2 + 1) - (1 : Int32) = nI (m 2) by rw [l32_1, ni_sub1 (by omega)]; rfl]
      refine Ev.bind (y_readCoins c6 hkn full (by rw [f6 (kn + 3) (by omega) (by omega)]; exact s33.1) hF) (fun h7 q7 => Ev.some ?_)
      obtain ⟨f7, g7, c7, v7⟩ := q7
      refine ⟨fun q a b d e => by rw [f7 q a (by omega) (by omega), f6 q a (by omega), k5 q (by omega)]; exact k4 q a b d, ?_⟩
      show CSt h7 kn T t (nTl t T m na x x4)
      unfold nTl
      cases r7 : pQ t T (x5 t T x4) with
      | inl f =>
        rw [r7] at c7
        exact c7
      | inr x6 =>
        rw [r7] at c7
        obtain ⟨b1, b2, b3, cc, b4, b5, b6⟩ := isW_kO (x5_is is4).1 r7
        have w7 := v7 x6 r7
        have kc : h7 (kn + 4) (m 2) = nI (kO t T (x5 t T x4)) ∧ h7 (kn + 3) (m 2) = nI cc := by
          rw [b6]
          unfold kO
          by_cases w : bo (isW t 6 (x5 t T x4)) = true
          · rw [if_pos w] at w7 ⊢
            rw [if_pos w]
            exact w7
          · rw [if_neg w] at w7 ⊢
            rw [if_neg w, w7.1, w7.2, f6 (kn + 4) (by omega) (by omega), f6 (kn + 3) (by omega) (by omega)]
            exact ⟨s4.1, s33.1⟩
        refine ⟨c7, NetR.add nr full ?_ (fun j hj => ?_) ?_ ?_ (fun u hu => ⟨?_, ?_, ?_, ?_⟩) ?_ ?_ kc.1 kc.2 b4 b5, fun v hv => ?_⟩
        · rw [f7 kn (by omega) (by omega) (by omega), f6 kn (by omega) (by omega)]; exact s3
        · rw [f7 kn (by omega) (by omega) (by omega), f6 kn (by omega) (by omega), s0 j hj, k4 kn (by omega) (by omega) (by omega)]
        · rw [f7 _ (by omega) (by omega) (by omega), f6 _ (by omega) (by omega), k5 _ (by omega), k4 _ (by omega) (by omega) (by omega)]
        · rw [f7 _ (by omega) (by omega) (by omega), f6 _ (by omega) (by omega), k5 _ (by omega), k4 _ (by omega) (by omega) (by omega)]
        · rw [f7 _ (by omega) (by omega) (by omega), f6 _ (by omega) (by omega), s11.2 u hu, k4 _ (by omega) (by omega) (by omega)]
        · rw [f7 _ (by omega) (by omega) (by omega), g6 u hu, s22.2 u hu, k4 _ (by omega) (by omega) (by omega)]
        · rw [(g7 u hu).1, f6 _ (by omega) (by omega), s33.2 u hu, k4 _ (by omega) (by omega) (by omega)]
        · rw [(g7 u hu).2, f6 _ (by omega) (by omega), s4.2 u hu, k4 _ (by omega) (by omega) (by omega)]
        · rw [f7 _ (by omega) (by omega) (by omega), f6 _ (by omega) (by omega)]; exact s11.1
        · rw [f7 _ (by omega) (by omega) (by omega)]; exact v6
        · dsimp only at hv ⊢
          rw [addm_2] at hv
          have k6 : ∀ q, q = 5 ∨ q = 6 → h7 q = h2' q := fun q hq => by rw [f7 q (by omega) (by omega) (by omega), f6 q (by omega) (by omega), k5 q (by omega), f4 q (by omega), f3 q (by omega)]
          rw [k6 5 (by omega), k6 6 (by omega)]
          exact ca2 v hv
