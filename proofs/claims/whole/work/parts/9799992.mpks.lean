-- packets, in both
theorem z_plines {T F n : Nat} {t : Nat → Nat} {h : Hp} (c0 : MPk h T t (ptP t T 0)) (hn : n ≤ 700) (pn : Qn t T n) (fn : FinQ (ptP t T n)) (hF : 1000 ≤ F) : Ev (ce_it (fun (st : Hp) => f12_packets_b19 F st) F h) (fun h' => FrU h h' ∧ MPk h' T t (ptP t T n)) := by
  refine Ev.it (I := fun i st => FrU h st ∧ MPk st T t (ptP t T i)) _ n ?_ F 0 _ (by omega) (by omega) ⟨FrU.refl h, c0⟩
  rintro i h3 hi ⟨f3, c3⟩
  show Ev (f12_packets_b19 F h3) _
  unfold f12_packets_b19
  by_cases ei : i = n
  · rw [ei] at c3
    cases r : ptP t T n with
    | inl f =>
      have c3' : MR h3 T t (.inl f) := by rw [r] at c3; exact c3
      rw [r] at c3
      exact Ev.neg c3'.bad (Ev.some ⟨f3, c3⟩)
    | inr s =>
      rw [r] at c3 fn
      have k0 : s.1.2.2 = 0 := fn
      exact Ev.pos c3.1.good (Ev.pos (by rw [c3.1.1.2.1.2.2.1, k0]; rfl) (Ev.some ⟨f3, c3⟩))
  · obtain ⟨s, es, k0⟩ := pn i (by omega)
    have is := ptP_is i (fun j hj => pn j (by omega)) s es
    have nx : ptP t T (i + 1) = bnd (pkP t T s) (pkS t T) := by rw [ptP_s, es]; rfl
    rw [es] at c3
    have cr := c3.1
    have kl := cr.1.2.2.2.2.2.1
    refine Ev.pos cr.good (Ev.neg (by rw [cr.1.2.1.2.2.1, l32_0, ni_eq (by omega) (by omega)]; exact k0) (Ev.bind (z_readsPacket c3 is hF) (fun h4 q4 => ?_)))
    obtain ⟨f4, c4⟩ := q4
    cases r : pkP t T s with
    | inl f =>
      rw [r] at c4 nx
      have c4' : MR h4 T t (.inl f) := c4
      refine Ev.neg c4'.bad (Ev.bind (z_pass1 c4' hF) (fun h5 q5 => Ev.some ⟨by omega, (f3.trans f4).trans q5.1.fu, ?_⟩))
      rw [nx]
      exact q5.2
    | inr u =>
      rw [r] at c4 nx
      obtain ⟨c5, e32, e37, e38, ml⟩ := c4
      have kl5 := c5.1.2.2.2.2.2.1
      have l3 := c5.1.2.1.2.2.1
      by_cases k3 : u.1.2.2 = 3
      · have pe : bnd (.inr u) (pkS t T) = .inr (tn t T u.1.2.1, u.2) := by
          show pkS t T u = _
          unfold pkS pS
          rw [if_pos k3]
          rfl
        rw [pe] at nx
        refine Ev.pos c5.good (Ev.pos (by rw [l3, k3]; rfl) (Ev.bind (z_pass1 c5 hF) (fun h5 q5 => Ev.some ⟨by omega, (f3.trans f4).trans q5.1.fu, ?_⟩)))
        rw [nx]
        refine ⟨q5.2, ?_, ?_, ?_, fun j hj => ?_⟩
        · rw [q5.1.2 32 (by omega)]; exact e32
        · rw [q5.1.2 37 (by omega)]; exact e37
        · rw [q5.1.2 38 (by omega)]; exact e38
        · rw [q5.1.1 88 (by omega), q5.1.1 89 (by omega)]; exact ml j hj
      · have pe : bnd (.inr u) (pkS t T) = .inl (1, u.1.1) := by
          show pkS t T u = _
          unfold pkS pS
          rw [if_neg k3]
          rfl
        rw [pe] at nx
        refine Ev.pos c5.good (Ev.neg (by rw [l3, l32_3, ni_eq (by omega) (by omega)]; exact k3) (Ev.bind (z_pass0 c5 hF) (fun h5 q5 => Ev.some ⟨by omega, (f3.trans f4).trans q5.1.fu, ?_⟩)))
        rw [nx]
        exact q5.2
def FrW (h h' : Hp) : Prop := (∀ q, q < 86 → q ≠ 68 → h' q = h q) ∧ (∀ q, 93 < q → h' q = h q) ∧ ∀ j, (j < 4 ∨ (12 < j ∧ j < 29)) → h' 68 j = h 68 j
theorem z_j83 {T F : Nat} {t : Nat → Nat} {h : Hp} {r : Rs Pk} (c : MPk h T t r) (hok : ∀ s, r = .inr s → okL s.2.1 s.2.2.2.1 s.2.2.2.2) (hF : 1000 ≤ F) : Ev (f12_packets_j83 F h) (fun p => FrW h p.2 ∧ p.2 68 4 = nI 0 ∧ ((∃ s, r = .inr s ∧ p.1 = nI s.2.1 ∧ p.2 68 29 = nI s.2.1 ∧ LtM p.2 s.2.1 s.2.2.2.1 s.2.2.2.2 ∧ TkM p.2 s.2.1 (bld s.2.2.2.1 s.2.2.2.2 s.2.1) ∧ p.2 68 5 = nI 0 ∧ p.2 68 6 = mm) ∨ ∃ f, r = .inl f ∧ p.1 = -4 ∧ (∀ q, q ≠ 68 → p.2 q = h q) ∧ p.2 68 29 = h 68 29 ∧ p.2 68 5 = nI f.1 ∧ p.2 68 6 = nI f.2)) := by
  unfold f12_packets_j83
  refine Ev.nm ?_
  obtain ⟨h1, eh1⟩ : ∃ h1, h1 = hp_up h 68 4 (0 : Int32) := ⟨_, rfl⟩
  rw [← eh1]
  have k1 : ∀ q, q ≠ 68 → h1 q = h q := fun q hq => by rw [eh1]; exact up_kk _ _ _ _ _ hq
  have j1 : ∀ j, j ≠ 4 → h1 68 j = h 68 j := fun j hj => by rw [eh1]; exact up_j _ _ _ _ _ hj
  have s4 : h1 68 4 = nI 0 := by rw [eh1, up_s]; rfl
  clear eh1
  cases r with
  | inl f =>
    have cb : MR h T t (.inl f) := c
    refine Ev.neg (by rw [j1 11 (by omega)]; exact cb.bad) (Ev.some ⟨⟨fun q _ a => k1 q a, fun q a => k1 q (by omega), fun j hj => j1 j (by omega)⟩, s4, Or.inr ⟨f, rfl, rfl, k1, j1 29 (by omega), ?_, ?_⟩⟩)
    · dsimp only; rw [j1 5 (by omega)]; exact cb.2.2.1
    · dsimp only; rw [j1 6 (by omega)]; exact cb.2.2.2
  | inr s =>
    obtain ⟨x, n, ro, len, L⟩ := s
    obtain ⟨cr, e32, e37, e38, ml⟩ := c
    have ok := hok _ rfl
    dsimp only at cr e32 e37 e38 ml ok
    have on := ok.1
    refine Ev.pos (by rw [j1 11 (by omega)]; exact cr.good) (Ev.nm ?_)
    rw [j1 32 (by omega), e32]
    obtain ⟨h2, eh2⟩ : ∃ h2, h2 = hp_up h1 68 29 (nI n) := ⟨_, rfl⟩
    rw [← eh2]
    have k2 : ∀ q, q ≠ 68 → h2 q = h q := fun q hq => by rw [eh2, up_kk _ _ _ _ _ hq]; exact k1 q hq
    have j2 : ∀ j, j ≠ 29 → h2 68 j = h1 68 j := fun j hj => by rw [eh2]; exact up_j _ _ _ _ _ hj
    have s29 : h2 68 29 = nI n := by rw [eh2, up_s]
    clear eh2
    refine Ev.bind (P := fun h3 => (∀ q, q ≠ 87 → h3 q = h2 q) ∧ ∀ j, j < 4 * n → h3 87 j = h2 89 j) ?_ (fun h3 q3 => ?_)
    · refine Ev.it (I := fun i st => i ≤ 4 * n ∧ st.1 = nI i ∧ (∀ q, q ≠ 87 → st.2 q = h2 q) ∧ ∀ j, j < i → st.2 87 j = h2 89 j) _ (4 * n) ?_ F 0 _ (by omega) (by omega) ⟨by omega, rfl, fun _ _ => rfl, fun j hj => absurd hj (Nat.not_lt_zero j)⟩
      rintro i ⟨x1, h3⟩ hi hI
      obtain ⟨-, rfl, g1, g2⟩ : i ≤ 4 * n ∧ x1 = nI i ∧ (∀ q, q ≠ 87 → h3 q = h2 q) ∧ ∀ j, j < i → h3 87 j = h2 89 j := hI
      show Ev (f12_packets_b108 F (nI i) h3) _
      have nxt : nI i + (1 : Int32) = nI (i + 1) := nI_1 _
      have e29 : (4 : Int32) * h3 68 29 = nI (4 * n) := by rw [g1 68 (by omega), s29, show (4 : Int32) = nI 4 from rfl, ni_mul]
      unfold f12_packets_b108
      rw [nxt]
      by_cases z : 4 * n ≤ i
      · exact Ev.pos (by rw [e29, ni_le (by omega) (by omega)]; exact z) (Ev.some ⟨g1, fun j hj => g2 j (by omega)⟩)
      · refine Ev.neg (by rw [e29, ni_le (by omega) (by omega)]; exact z) (Ev.grd (ni_in (by omega) (by omega)) (Ev.grd (ni_in (by omega) (by omega)) (Ev.nm (Ev.some ⟨by omega, by omega, rfl, fun q hq => ?_, fun j hj => ?_⟩))))
        · dsimp only; rw [up_kk _ _ _ _ _ hq]; exact g1 q hq
        · dsimp only
          rw [ni_cl (by omega)]
          by_cases y : j = i
          · rw [y, up_s, g1 89 (by omega)]
          · rw [up_j _ _ _ _ _ y]; exact g2 j (by omega)
    obtain ⟨g1, g2⟩ := q3
    refine Ev.bind (P := fun h4 => (∀ q, q ≠ 86 → h4 q = h3 q) ∧ ∀ j, j < n → h4 86 j = h3 88 j) ?_ (fun h4 q4 => ?_)
    · refine Ev.it (I := fun i st => i ≤ n ∧ st.1 = nI i ∧ (∀ q, q ≠ 86 → st.2 q = h3 q) ∧ ∀ j, j < i → st.2 86 j = h3 88 j) _ n ?_ F 0 _ (by omega) (by omega) ⟨by omega, rfl, fun _ _ => rfl, fun j hj => absurd hj (Nat.not_lt_zero j)⟩
      rintro i ⟨x1, h4⟩ hi hI
      obtain ⟨-, rfl, e1, e2⟩ : i ≤ n ∧ x1 = nI i ∧ (∀ q, q ≠ 86 → h4 q = h3 q) ∧ ∀ j, j < i → h4 86 j = h3 88 j := hI
      show Ev (f12_packets_b138 F (nI i) h4) _
      have nxt : nI i + (1 : Int32) = nI (i + 1) := nI_1 _
      have e29 : h4 68 29 = nI n := by rw [e1 68 (by omega), g1 68 (by omega)]; exact s29
      unfold f12_packets_b138
      rw [nxt]
      by_cases z : n ≤ i
      · exact Ev.pos (by rw [e29, ni_le (by omega) (by omega)]; exact z) (Ev.some ⟨e1, fun j hj => e2 j (by omega)⟩)
      · refine Ev.neg (by rw [e29, ni_le (by omega) (by omega)]; exact z) (Ev.grd (ni_in (by omega) (by omega)) (Ev.grd (ni_in (by omega) (by omega)) (Ev.nm (Ev.some ⟨by omega, by omega, rfl, fun q hq => ?_, fun j hj => ?_⟩))))
        · dsimp only; rw [up_kk _ _ _ _ _ hq]; exact e1 q hq
        · dsimp only
          rw [ni_cl (by omega)]
          by_cases y : j = i
          · rw [y, up_s, e1 88 (by omega)]
          · rw [up_j _ _ _ _ _ y]; exact e2 j (by omega)
    obtain ⟨e1, e2⟩ := q4
    have k4 : ∀ q, q ≠ 68 → q ≠ 86 → q ≠ 87 → h4 q = h q := fun q a b d => by rw [e1 q b, g1 q d, k2 q a]
    have j4 : ∀ j, j ≠ 29 → h4 68 j = h1 68 j := fun j hj => by rw [e1 68 (by omega), g1 68 (by omega)]; exact j2 j hj
    have w29 : h4 68 29 = nI n := by rw [e1 68 (by omega), g1 68 (by omega)]; exact s29
    have lm : LtM h4 n len L := fun i hi => by
      obtain ⟨m1, m2⟩ := ml i hi
      have l4 := (ok.2.1 i hi).1
      refine ⟨?_, fun p hp => ?_⟩
      · rw [e2 i hi, g1 88 (by omega), k2 88 (by omega)]; exact m1
      · rw [e1 87 (by omega), g2 _ (by omega), k2 89 (by omega)]; exact m2 p hp
    refine Ev.bind (z_builds ok w29 lm hF) (fun h5 q5 => Ev.some ?_)
    obtain ⟨f5, tkm⟩ := q5
    have j5 : ∀ j, j ≠ 29 → j ≠ 37 → h5 68 j = h1 68 j := fun j a b => by rw [f5.2 j b]; exact j4 j a
    have v29 : h5 68 29 = nI n := by rw [f5.2 29 (by omega)]; exact w29
    refine ⟨⟨fun q a b => ?_, fun q a => ?_, fun j hj => ?_⟩, ?_, Or.inl ⟨_, rfl, v29, v29, fun i hi => ?_, tkm, ?_, ?_⟩⟩
    · dsimp only; rw [f5.1 q b (by omega) (by omega) (by omega) (by omega), k4 q b (by omega) (by omega)]
    · dsimp only; rw [f5.1 q (by omega) (by omega) (by omega) (by omega) (by omega), k4 q (by omega) (by omega) (by omega)]
    · dsimp only; rw [j5 j (by omega) (by omega)]; exact j1 j (by omega)
    · dsimp only; rw [j5 4 (by omega) (by omega)]; exact s4
    · dsimp only
      rw [f5.1 86 (by omega) (by omega) (by omega) (by omega) (by omega), f5.1 87 (by omega) (by omega) (by omega) (by omega) (by omega)]
      exact lm i hi
    · dsimp only; rw [j5 5 (by omega) (by omega), j1 5 (by omega)]; exact cr.2.1
    · dsimp only; rw [j5 6 (by omega) (by omega), j1 6 (by omega)]; exact cr.2.2
theorem z_packets {T F n : Nat} {t : Nat → Nat} {h : Hp} (tm : TM h T t) (hn : n ≤ 700) (pn : Qn t T n) (fn : FinQ (ptP t T n)) (hF : 1000 ≤ F) : Ev (f12_packets F h) (fun p => FrW h p.2 ∧ p.2 68 4 = nI 0 ∧ ((∃ s, pfin (ptP t T n) = .inr s ∧ okL s.2.1 s.2.2.2.1 s.2.2.2.2 ∧ p.1 = nI s.2.1 ∧ p.2 68 29 = nI s.2.1 ∧ LtM p.2 s.2.1 s.2.2.2.1 s.2.2.2.2 ∧ TkM p.2 s.2.1 (bld s.2.2.2.1 s.2.2.2.2 s.2.1) ∧ p.2 68 5 = nI 0 ∧ p.2 68 6 = mm) ∨ ∃ f, pfin (ptP t T n) = .inl f ∧ p.1 = -4 ∧ (∀ q, q ≠ 68 → q ≠ 88 → q ≠ 89 → q ≠ 93 → p.2 q = h q) ∧ p.2 68 29 = h 68 29 ∧ p.2 68 5 = nI f.1 ∧ p.2 68 6 = nI f.2)) := by
  unfold f12_packets
  refine Ev.nm (Ev.nm (Ev.nm ?_))
  obtain ⟨h1, eh1⟩ : ∃ h1, h1 = hp_up (hp_up (hp_up h 68 32 (0 : Int32)) 68 37 (0 : Int32)) 68 38 (0 : Int32) := ⟨_, rfl⟩
  rw [← eh1]
  have k1 : ∀ q, q ≠ 68 → h1 q = h q := fun c hc => by rw [eh1, up_kk _ _ _ _ _ hc, up_kk _ _ _ _ _ hc, up_kk _ _ _ _ _ hc]
  have j1 : ∀ j, j ≠ 32 → j ≠ 37 → j ≠ 38 → h1 68 j = h 68 j := fun j a b d => by rw [eh1, up_j _ _ _ _ _ d, up_j _ _ _ _ _ b, up_j _ _ _ _ _ a]
  have s38 : h1 68 38 = nI 0 := by rw [eh1, up_s]; rfl
  have s37 : h1 68 37 = nI 0 := by rw [eh1, up_j _ _ _ _ _ (by omega), up_s]; rfl
  have s32 : h1 68 32 = nI 0 := by rw [eh1, up_j _ _ _ _ _ (by omega), up_j _ _ _ _ _ (by omega), up_s]; rfl
  clear eh1
  have tm1 : TM h1 T t := by unfold TM; rw [j1 4 (by omega) (by omega) (by omega), k1 72 (by omega)]; exact tm
  refine Ev.bind (z_begins tm1 hF) (fun h2 q2 => ?_)
  obtain ⟨f2, c2⟩ := q2
  have ms0 : MPk h2 T t (ptP t T 0) := by
    refine ⟨c2, ?_, ?_, ?_, fun i hi => absurd hi (Nat.not_lt_zero i)⟩
    · rw [f2.2 32 (by omega)]; exact s32
    · rw [f2.2 37 (by omega)]; exact s37
    · rw [f2.2 38 (by omega)]; exact s38
  refine Ev.bind (z_plines ms0 hn pn fn hF) (fun h3 q3 => ?_)
  obtain ⟨f3, c3⟩ := q3
  have f13 : FrU h h3 := FrU.trans (FrU.trans ⟨fun q a _ _ _ => k1 q a, fun j hj => j1 j (by omega) (by omega) (by omega)⟩ f2.fu) f3
  -- from what stands behind the last word on
  have go : ∀ h4, FrU h h4 → MPk h4 T t (pfin (ptP t T n)) → (∀ s, pfin (ptP t T n) = .inr s → okL s.2.1 s.2.2.2.1 s.2.2.2.2) → Ev (f12_packets_j83 F h4) (fun p => FrW h p.2 ∧ p.2 68 4 = nI 0 ∧ ((∃ s, pfin (ptP t T n) = .inr s ∧ okL s.2.1 s.2.2.2.1 s.2.2.2.2 ∧ p.1 = nI s.2.1 ∧ p.2 68 29 = nI s.2.1 ∧ LtM p.2 s.2.1 s.2.2.2.1 s.2.2.2.2 ∧ TkM p.2 s.2.1 (bld s.2.2.2.1 s.2.2.2.2 s.2.1) ∧ p.2 68 5 = nI 0 ∧ p.2 68 6 = mm) ∨ ∃ f, pfin (ptP t T n) = .inl f ∧ p.1 = -4 ∧ (∀ q, q ≠ 68 → q ≠ 88 → q ≠ 89 → q ≠ 93 → p.2 q = h q) ∧ p.2 68 29 = h 68 29 ∧ p.2 68 5 = nI f.1 ∧ p.2 68 6 = nI f.2)) := fun h4 f4 c4 ok4 => by
    refine Ev.mono (z_j83 c4 ok4 hF) (fun p q => ?_)
    obtain ⟨⟨w1, w2, w3⟩, p4, alt⟩ := q
    refine ⟨⟨fun q a b => by rw [w1 q a b, f4.1 q b (by omega) (by omega) (by omega)], fun q a => by rw [w2 q a, f4.1 q (by omega) (by omega) (by omega) (by omega)], fun j hj => by rw [w3 j hj, f4.2 j (by omega)]⟩, p4, ?_⟩
    rcases alt with ⟨s, es, a1, a2, a3, a4, a5, a6⟩ | ⟨f, ef, a1, a2, a3, a4, a5⟩
    · exact Or.inl ⟨s, es, ok4 s es, a1, a2, a3, a4, a5, a6⟩
    · exact Or.inr ⟨f, ef, a1, fun q b d e g => by rw [a2 q b, f4.1 q b d e g], by rw [a3, f4.2 29 (by omega)], a4, a5⟩
  cases r : ptP t T n with
  | inl f =>
    have ef : pfin (ptP t T n) = .inl f := by rw [r]; rfl
    rw [r] at c3
    have cb : MR h3 T t (.inl f) := c3
    have go' : ∀ h4, FrU h h4 → MR h4 T t (.inl f) → _ := fun h4 f4 c4 => go h4 f4 (by rw [ef]; exact c4) (fun s q => by rw [ef] at q; cases q)
    rw [r] at go'
    refine Ev.ite (fun _ => Ev.ite (fun _ => go' h3 f13 cb) (fun _ => Ev.bind (z_faults (k := 4) cb) (fun h4 q4 => go' h4 (f13.trans q4.1.fu) q4.2))) (fun _ => go' h3 f13 cb)
  | inr s =>
    have is := ptP_is n pn s r
    have ef : pfin (ptP t T n) = if 0 < s.2.1 ∧ s.2.2.1 = 0 then .inl (4, s.1.1) else .inr s := by rw [r]; rfl
    rw [r] at c3
    obtain ⟨cr, e32, e37, e38, ml⟩ := id c3
    have n12 := is.2.2.2.1
    have r1 := is.2.2.1
    rw [← r]
    by_cases w : s.2.2.1 = 0
    · refine Ev.pos (by rw [e38, w]; rfl) ?_
      by_cases z : s.2.1 ≤ 0
      · have ef' : pfin (ptP t T n) = .inr s := by rw [ef, if_neg (fun q => absurd q.1 (by omega))]
        exact Ev.pos (by rw [e32]; simp (disch := omega) only [up_s, up_k, up_j, mm_neg, mm_def, ni_lt, ni_le, ni_eq, ni_mm, mm_ni, ni_lt_mm, ni_le_mm, mm_lt_ni, mm_le_ni, mm_lt_mm, mm_le_mm, ni_cl, ni_in, nI_add, ni_mul, ni_div, ni_rem, ni_rem2, fr_sub, fr_mm, fr_ge0, fr_lt0, fr_inj, l32_0, l32_1, l32_2, l32_3, l32_4, l32_5, l32_6, l32_7, l32_8, l32_9, l32_10, l32_11, l32_12, l32_13, l32_14, l32_15, l32_16, l32_20, l32_24, l32_25, l32_26, l32_31, l32_32, l32_34, l32_35, l32_39, l32_40, l32_44, l32_45, l32_46, l32_47, l32_48, l32_49, l32_57, l32_58, l32_59, l32_63, l32_64, l32_85, l32_90, l32_97, l32_99, l32_100, l32_110, l32_112, l32_122, l32_124, l32_125, l32_255, l32_680, l32_699, l32_700, l32_999, l32_2500, l32_99999, l32_100000, l32_1000000, if_true, if_false, ite_true, ite_false, ce_nm, Option.bind, if_pos, if_neg]; exact z) (go h3 f13 (by rw [ef']; exact c3) (fun s' q => by rw [ef'] at q; cases q; exact is.2.2.2))
      · have ef' : pfin (ptP t T n) = .inl (4, s.1.1) := by rw [ef, if_pos ⟨by omega, w⟩]
        exact Ev.neg (by rw [e32]; simp (disch := omega) only [up_s, up_k, up_j, mm_neg, mm_def, ni_lt, ni_le, ni_eq, ni_mm, mm_ni, ni_lt_mm, ni_le_mm, mm_lt_ni, mm_le_ni, mm_lt_mm, mm_le_mm, ni_cl, ni_in, nI_add, ni_mul, ni_div, ni_rem, ni_rem2, fr_sub, fr_mm, fr_ge0, fr_lt0, fr_inj, l32_0, l32_1, l32_2, l32_3, l32_4, l32_5, l32_6, l32_7, l32_8, l32_9, l32_10, l32_11, l32_12, l32_13, l32_14, l32_15, l32_16, l32_20, l32_24, l32_25, l32_26, l32_31, l32_32, l32_34, l32_35, l32_39, l32_40, l32_44, l32_45, l32_46, l32_47, l32_48, l32_49, l32_57, l32_58, l32_59, l32_63, l32_64, l32_85, l32_90, l32_97, l32_99, l32_100, l32_110, l32_112, l32_122, l32_124, l32_125, l32_255, l32_680, l32_699, l32_700, l32_999, l32_2500, l32_99999, l32_100000, l32_1000000, if_true, if_false, ite_true, ite_false, ce_nm, Option.bind, if_pos, if_neg]; exact z) (Ev.bind (z_faults (k := 4) cr) (fun h4 q4 => go h4 (f13.trans q4.1.fu) (by rw [ef']; exact q4.2) (fun s' q => by rw [ef'] at q; cases q)))
    · have ef' : pfin (ptP t T n) = .inr s := by rw [ef, if_neg (fun q => w q.2)]
      exact Ev.neg (by rw [e38, l32_0, ni_eq (by omega) (by omega)]; exact w) (go h3 f13 (by rw [ef']; exact c3) (fun s' q => by rw [ef'] at q; cases q; exact is.2.2.2))
