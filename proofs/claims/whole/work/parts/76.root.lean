-- what an election leaves: roots and parents
def Pf (m : Nat → Nat) (s : Es) (v : Nat) : Nat := Pd (og m) m s (mu (og m) s v) v
def Rf (m : Nat → Nat) (s : Es) (v : Nat) : Nat := Rd (og m) m s (mu (og m) s v) v
def Kf (m : Nat → Nat) (s : Es) (v : Nat) : Nat := Kd (og m) m s (mu (og m) s v) v
def FS (m wt : Nat → Nat) (s : Es) : Prop := OkG m ∧ EM (og m) m wt 699 (m 2) s ∧ Qt wt s
theorem Rf_c {m : Nat → Nat} {s : Es} {v : Nat} : Rf m s v ≠ 0 ↔ s 4 v ≠ 0 ∨ (mu (og m) s v = true ∧ wno (og m) m s (el (og m) s v) = v) := by
  unfold Rf Rd
  by_cases z : mu (og m) s v = true ∧ wno (og m) m s (el (og m) s v) = v
  · rw [if_pos z]
    exact ⟨fun _ => Or.inr z, fun _ => by omega⟩
  · rw [if_neg z]
    exact ⟨Or.inl, fun q => q.elim id (fun q => absurd q z)⟩
theorem Pf_z {m wt : Nat → Nat} {s : Es} (fs : FS m wt s) {v : Nat} (hv : v < 10) (h : Rf m s v ≠ 0) : Pf m s v = 0 := by
  obtain ⟨ok, E, Q⟩ := fs
  unfold Pf Pd
  by_cases z : mu (og m) s v = true ∧ wno (og m) m s (el (og m) s v) = v
  · rw [if_pos z]
  · rw [if_neg z]
    rcases Rf_c.mp h with q | q
    · exact E.2.2.2.1 v hv (E.2.2.1 v hv q).2.1
    · exact absurd q z
theorem Pf_s {m : Nat → Nat} {s : Es} {v : Nat} (h : Pf m s v ≠ 0) : Pf m s v = s 2 v ∧ ¬ (mu (og m) s v = true ∧ wno (og m) m s (el (og m) s v) = v) := by
  unfold Pf Pd at *
  by_cases z : mu (og m) s v = true ∧ wno (og m) m s (el (og m) s v) = v
  · rw [if_pos z] at h
    exact absurd rfl h
  · rw [if_neg z]
    exact ⟨rfl, z⟩
theorem Pf_ok {m wt : Nat → Nat} {s : Es} (fs : FS m wt s) {v : Nat} (hv : v < 10) (h : Pf m s v ≠ 0) : Pf m s v ≤ 40 ∧ (Pf m s v - 1) / 4 = v ∧ og m (Pf m s v - 1) ≠ 0 := by
  obtain ⟨ok, E, Q⟩ := fs
  obtain ⟨p1, p2⟩ := Pf_s h
  rw [p1] at h ⊢
  obtain ⟨a1, a2, a3, a4, a5, a6⟩ := E.2.1 v hv (E.s2 hv h)
  exact ⟨a3, a4, a5⟩
theorem Pf_ch {m wt : Nat → Nat} {s : Es} (fs : FS m wt s) {e : Nat} (he : e < 40) (h0 : og m e ≠ 0) (h : Rf m s (e / 4) ≠ 0 ∨ (Pf m s (e / 4) ≠ 0 ∧ e + 1 ≠ Pf m s (e / 4))) : Pf m s ((og m e - 1) / 4) = og m e := by
  obtain ⟨ok, E, Q⟩ := fs
  have g := ok.2.2.2.1
  obtain ⟨g1, g2, g3⟩ := g e he h0
  have hv : e / 4 < 10 := by omega
  have hw : (og m e - 1) / 4 < 10 := by omega
  have k1 : s 2 ((og m e - 1) / 4) = og m e := by
    rcases h with h | ⟨h, hn⟩
    · rcases Rf_c.mp h with q | ⟨q1, q2⟩
      · exact (E.1 e he ((E.2.2.1 _ hv q).2.2 e he rfl h0).1).2.2
      · rw [mu_t] at q1
        by_cases z : e + 1 = s 2 (e / 4)
        · have := q1.2
          rw [← z, show e + 1 - 1 = e from rfl] at this
          exact this
        · exact (E.1 e he ((E.2.1 _ hv (E.s2 hv q1.1)).2.2.2.2.2.2.2.2.2.2 e he rfl h0 z).1).2.2
    · obtain ⟨p1, p2⟩ := Pf_s h
      rw [p1] at h hn
      exact (E.1 e he ((E.2.1 _ hv (E.s2 hv h)).2.2.2.2.2.2.2.2.2.2 e he rfl h0 hn).1).2.2
  unfold Pf Pd
  rw [if_neg, k1]
  rintro ⟨a1, a2⟩
  have a3 := mu_t.mp a1
  rw [k1, g2, show e + 1 - 1 = e from rfl] at a3
  have a4 : s 2 (e / 4) = e + 1 := a3.2
  rcases h with h | ⟨h, hn⟩
  · rcases Rf_c.mp h with q | ⟨q1, q2⟩
    · have := E.2.2.2.1 _ hv (E.2.2.1 _ hv q).2.1
      omega
    · have e1 : el (og m) s (e / 4) = el (og m) s ((og m e - 1) / 4) := by
        unfold el
        rw [a4, k1, g2, show e + 1 - 1 = e from rfl]
        omega
      rw [e1] at q2
      exact g3 (a2.symm.trans q2)
  · have := (Pf_s h).1
    omega
/-- up from u the parents lead to r -/
def Rc (m : Nat → Nat) (s : Es) (r u : Nat) : Prop := ∀ S : Nat → Prop, S r → (∀ x, x < 10 → Pf m s x ≠ 0 → S ((og m (Pf m s x - 1) - 1) / 4) → S x) → S u
theorem Rc.refl (m : Nat → Nat) (s : Es) (r : Nat) : Rc m s r r := fun S h _ => h
theorem Rc.step {m : Nat → Nat} {s : Es} {r x : Nat} (hx : x < 10) (h : Pf m s x ≠ 0) (h1 : Rc m s r ((og m (Pf m s x - 1) - 1) / 4)) : Rc m s r x := fun S a b => b x hx h (h1 S a b)
theorem Rc.cases {m : Nat → Nat} {s : Es} {r u : Nat} (h : Rc m s r u) : u = r ∨ (Pf m s u ≠ 0 ∧ Rc m s r ((og m (Pf m s u - 1) - 1) / 4)) :=
  (h (fun x => Rc m s r x ∧ (x = r ∨ (Pf m s x ≠ 0 ∧ Rc m s r ((og m (Pf m s x - 1) - 1) / 4)))) ⟨Rc.refl m s r, Or.inl rfl⟩ (fun x hx hp hS => ⟨Rc.step hx hp hS.1, Or.inr ⟨hp, hS.1⟩⟩)).2
theorem Rc_all {m wt : Nat → Nat} {s : Es} (fs : FS m wt s) {r : Nat} (hR : Rf m s r ≠ 0) {u : Nat} (h : Cn (og m) r u) : Rc m s r u := by
  refine h (Rc m s r) ?_ (Rc.refl m s r)
  rintro a b ⟨e, he, h1, h2, h3⟩ ha
  have g := fs.1.2.2.2.1
  obtain ⟨g1, g2, g3⟩ := g e he h2
  subst h1
  subst h3
  have ch : (Rf m s (e / 4) ≠ 0 ∨ (Pf m s (e / 4) ≠ 0 ∧ e + 1 ≠ Pf m s (e / 4))) → Rc m s r ((og m e - 1) / 4) := fun q => by
    have := Pf_ch fs he h2 q
    refine Rc.step (by omega) (by omega) ?_
    rw [this, g2, show e + 1 - 1 = e from rfl]
    exact ha
  rcases ha.cases with z | ⟨z1, z2⟩
  · refine ch (Or.inl ?_)
    rw [z]
    exact hR
  · by_cases z : e + 1 = Pf m s (e / 4)
    · rw [← z, show e + 1 - 1 = e from rfl] at z2
      exact z2
    · exact ch (Or.inr ⟨z1, z⟩)
/-- one root -/
theorem root_one {m wt : Nat → Nat} {s : Es} (fs : FS m wt s) {r r' : Nat} (hr' : r' < 10) (hR : Rf m s r ≠ 0) (hR' : Rf m s r' ≠ 0) (h : Cn (og m) r r') : r' = r := by
  rcases (Rc_all fs hR h).cases with z | ⟨z, -⟩
  · exact z
  · exact absurd (Pf_z fs hr' hR') z
/-- each cable is a parent's -/
theorem root_ends {m wt : Nat → Nat} {s : Es} (fs : FS m wt s) {r : Nat} (hr : r < 10) (hR : Rf m s r ≠ 0) : ∀ e, e < 40 → og m e ≠ 0 → Cn (og m) r (e / 4) → (e / 4 ≠ r ∧ e + 1 = Pf m s (e / 4)) ∨ ((og m e - 1) / 4 ≠ r ∧ og m e = Pf m s ((og m e - 1) / 4)) := by
  intro e he h0 hc
  have rz := Pf_z fs hr hR
  have ch : (Rf m s (e / 4) ≠ 0 ∨ (Pf m s (e / 4) ≠ 0 ∧ e + 1 ≠ Pf m s (e / 4))) → (og m e - 1) / 4 ≠ r ∧ og m e = Pf m s ((og m e - 1) / 4) := fun q => by
    have := Pf_ch fs he h0 q
    refine ⟨fun z => ?_, this.symm⟩
    rw [z] at this
    omega
  rcases (Rc_all fs hR hc).cases with z | ⟨z1, z2⟩
  · refine Or.inr (ch (Or.inl ?_))
    rw [z]
    exact hR
  · by_cases z : e + 1 = Pf m s (e / 4)
    · refine Or.inl ⟨fun q => ?_, z⟩
      rw [q] at z
      omega
    · exact Or.inr (ch (Or.inr ⟨z1, z⟩))
theorem root_few {m wt : Nat → Nat} {s : Es} (fs : FS m wt s) {r : Nat} (hr : r < 10) (hR : Rf m s r ≠ 0) : ct (eb (og m) r) 40 + 2 ≤ 2 * ct (nb (og m) r) 10 := by
  refine few_ends fs.1.2.2.2.1 hr (fun v => Pf m s v - 1) (fun e he h0 hc => ?_)
  rcases root_ends fs hr hR e he h0 hc with ⟨a, b⟩ | ⟨a, b⟩
  · exact Or.inl ⟨a, by omega⟩
  · exact Or.inr ⟨a, by omega⟩
/-- the parents are those of the ways from the root -/
theorem root_pe {m wt : Nat → Nat} {s : Es} (fs : FS m wt s) {r : Nat} (hr : r < m 2) (hR : Rf m s r ≠ 0) : ∃ hp dy, Bf m (og m) r hp dy ∧ Pe m (og m) r hp dy (fun v => Pf m s v - 1) := by
  have g := fs.1.2.2.2.1
  have h2 := fs.1.2.1
  obtain ⟨hp, dy, bf⟩ := bf_ex (lx := 0) fs.1 hr (by omega)
  have ec : cu (og m) 0 = og m := funext (fun e => cu_0 (og m) e)
  rw [ec] at bf
  obtain ⟨pe, hpe⟩ := Bf.pe g bf
  have key : ∀ n v, hp v ≤ n → v < 10 → Cn (og m) r v → v ≠ r → pe v + 1 = Pf m s v := by
    intro n
    induction n with
    | zero =>
      intro v hn hv hc hvr
      have := (bf.2.2.1 v hv).mpr hc
      omega
    | succ n ih =>
      intro v hn hv hc hvr
      obtain ⟨a1, a2, a3, a4, a5, a6⟩ := hpe v hv hc hvr
      obtain ⟨g1, g2, g3⟩ := g (pe v) a1 a3
      rcases root_ends fs (by omega) hR (pe v) a1 a3 (by rw [a2]; exact hc) with ⟨b1, b2⟩ | ⟨b1, b2⟩
      · rw [a2] at b2
        exact b2
      · have hcu : Cn (og m) r ((og m (pe v) - 1) / 4) := Cn.step a1 a3 (by rw [a2]; exact hc)
        have i1 := ih _ (by omega) (by omega) hcu b1
        obtain ⟨c1, c2, c3, c4, c5, c6⟩ := hpe _ (by omega) hcu b1
        rw [show pe ((og m (pe v) - 1) / 4) = og m (pe v) - 1 by omega, g2, show pe v + 1 - 1 = pe v from rfl, a2] at c5
        omega
  refine ⟨hp, dy, bf, fun v hv hc hvr => ?_⟩
  have := key (hp v) v (Nat.le_refl _) hv hc hvr
  have e1 : pe v = Pf m s v - 1 := by omega
  have h1 := hpe v hv hc hvr
  rw [e1] at h1
  exact h1
/-- who is not decided has two silent ends -/
theorem und_two {m wt : Nat → Nat} {s : Es} (fs : FS m wt s) {v : Nat} (hv : v < m 2) (h1 : s 1 v = 0) (h4 : s 4 v = 0) : ∃ e f, e < 40 ∧ f < 40 ∧ e ≠ f ∧ e / 4 = v ∧ f / 4 = v ∧ og m e ≠ 0 ∧ og m f ≠ 0 ∧ s 0 e = 0 ∧ s 0 f = 0 := by
  obtain ⟨ok, E, Q⟩ := fs
  have h2 := ok.2.1
  have two : 2 ≤ ct (si (og m) s 699 v) 4 := by
    rcases E.2.2.2.2.2.2.2.1 v hv with z | z | z | ⟨z1, z2, z3⟩
    · exact absurd h1 z
    · exact absurd h4 z
    · exact z
    · have := Q.2 v (by omega) z2
      omega
  have use : ∀ p, p < 4 → si (og m) s 699 v p = true → og m (4 * v + p) ≠ 0 ∧ s 0 (4 * v + p) = 0 := fun p hp q => by
    obtain ⟨q1, q2⟩ := si_t.mp q
    have := Q.1 (4 * v + p) (by omega)
    exact ⟨q1, by omega⟩
  have l1 := lp_spec (si (og m) s 699 v) 4
  generalize hc : ct (si (og m) s 699 v) 4 = c at two l1
  have lz : lp (si (og m) s 699 v) 4 ≠ 0 := fun z => by have := l1.2.2 z; omega
  have t1 := l1.2.1 lz
  obtain ⟨p, hp⟩ : ∃ p, p = lp (si (og m) s 699 v) 4 - 1 := ⟨_, rfl⟩
  have hp4 : p < 4 := by have := l1.1; omega
  rw [← hp] at t1
  have d := ct_del hp4 t1
  rw [hc] at d
  have l2 := lp_spec (fun i => si (og m) s 699 v i && !(i == p)) 4
  have lz2 : lp (fun i => si (og m) s 699 v i && !(i == p)) 4 ≠ 0 := fun z => by
    have := l2.2.2 z
    omega
  have t2 := l2.2.1 lz2
  obtain ⟨q, hq⟩ : ∃ q, q = lp (fun i => si (og m) s 699 v i && !(i == p)) 4 - 1 := ⟨_, rfl⟩
  have hq4 : q < 4 := by have := l2.1; omega
  rw [← hq] at t2
  have t3 : si (og m) s 699 v q = true ∧ q ≠ p := by simpa using t2
  obtain ⟨u1, u2'⟩ := use p hp4 t1
  obtain ⟨u3, u4⟩ := use q hq4 t3.1
  exact ⟨4 * v + p, 4 * v + q, by omega, by omega, by omega, by omega, by omega, u1, u3, u2', u4⟩
/-- in a tree someone is the root -/
theorem root_ex {m wt : Nat → Nat} {s : Es} (fs : FS m wt s) {a : Nat} (ha : a < m 2) (tr : ¬ sz (og m) a ≤ cb (og m) a) : ∃ r, r < m 2 ∧ Cn (og m) a r ∧ Rf m s r ≠ 0 := by
  have g := fs.1.2.2.2.1
  have h2 := fs.1.2.1
  have ok := fs.1
  have E := fs.2.1
  apply Classical.byContradiction
  intro no
  have in2 : ∀ v, Cn (og m) a v → v < m 2 := fun v hc => hc (fun x => x < m 2) (fun x y ⟨e, he, q1, q2, q3⟩ _ => by
    obtain ⟨g1, g2, g3⟩ := g e he q2
    have := (ok.2.2.2.2 (og m e - 1) (by omega) (by rw [g2]; omega)).1
    omega) ha
  have noR : ∀ v, Cn (og m) a v → Rf m s v = 0 := fun v hc => Classical.byContradiction (fun q => no ⟨v, in2 v hc, hc, q⟩)
  have no4 : ∀ v, Cn (og m) a v → s 4 v = 0 := fun v hc => Classical.byContradiction (fun q => Rf_c.mpr (Or.inl q) (noR v hc))
  have nomu : ∀ v, Cn (og m) a v → mu (og m) s v = false := fun v hc => by
    cases hm : mu (og m) s v with
    | false => rfl
    | true =>
      exfalso
      have hv := in2 v hc
      obtain ⟨e, q1, q2, q3, q4, q5, q6, q7⟩ := mu_el g E (by omega : v < 10) hm
      obtain ⟨p1, p2, p3, p4⟩ := el_mu g q2 q3 q4 q5 q6
      obtain ⟨g1, g2, g3⟩ := g e q2 q3
      have c1 : Cn (og m) a (e / 4) := by
        rcases q7 with z | z
        · rw [← z]; exact hc
        · have := Cn.step (o := og m) (a := a) (e := og m e - 1) (by omega) (by rw [g2]; omega) (by rw [← z]; exact hc)
          rw [g2] at this
          exact this
      have c2 : Cn (og m) a ((og m e - 1) / 4) := Cn.step q2 q3 c1
      by_cases w : wno (og m) m s e = e / 4
      · exact Rf_c.mpr (Or.inr ⟨p1, by rw [p2]; exact w⟩) (noR _ c1)
      · have : wno (og m) m s e = (og m e - 1) / 4 := by
          unfold wno at w ⊢
          by_cases y : (CWe (og m) m s e).2.2 = 1
          · rw [if_pos y] at w; exact absurd rfl w
          · rw [if_neg y]
        exact Rf_c.mpr (Or.inr ⟨p3, by rw [p4]; exact this⟩) (noR _ c2)
  by_cases und : ∃ v, Cn (og m) a v ∧ s 1 v = 0
  · obtain ⟨v, hc, h1⟩ := und
    have hv := in2 v hc
    obtain ⟨hp, dy, bf⟩ := bf_ex (lx := 0) ok hv (by omega)
    have ec : cu (og m) 0 = og m := funext (fun e => cu_0 (og m) e)
    rw [ec] at bf
    obtain ⟨pe, hpe⟩ := Bf.pe g bf
    have tr' : ¬ sz (og m) v ≤ cb (og m) v := by
      rw [sz_eq g hc, cb_eq g hc] at tr
      exact tr
    have te := tree_ends g (by omega) hpe tr'
    have cn_ : ∀ u, Cn (og m) v u → Cn (og m) a u := fun u q => hc.trans q
    have climb : ∀ n, ∃ u, Cn (og m) v u ∧ s 1 u = 0 ∧ n < hp u := by
      intro n
      induction n with
      | zero => exact ⟨v, Cn.refl _ _, h1, by rw [bf.1]; omega⟩
      | succ n ih =>
        obtain ⟨u, b1, b2, b3⟩ := ih
        have hu := in2 u (cn_ u b1)
        obtain ⟨e, f, x1, x2, x3, x4, x5, x6, x7, x8, x9⟩ := und_two fs hu b2 (no4 u (cn_ u b1))
        have nb : ∀ e, e < 40 → e / 4 = u → og m e ≠ 0 → s 0 e = 0 → e ≠ pe u ∨ u = v → ∃ u', Cn (og m) v u' ∧ s 1 u' = 0 ∧ n + 1 < hp u' := fun e he hu' h0 hs hd => by
          obtain ⟨g1, g2, g3⟩ := g e he h0
          have c' : Cn (og m) v ((og m e - 1) / 4) := Cn.step he h0 (by rw [hu']; exact b1)
          have hw : (og m e - 1) / 4 < 10 := by omega
          refine ⟨(og m e - 1) / 4, c', ?_, ?_⟩
          · apply Classical.byContradiction
            intro q
            obtain ⟨y1, y2, y3, y4, y5, y6, y7, y8, y9, y10, y11⟩ := E.2.1 _ hw q
            by_cases z : og m e = s 2 ((og m e - 1) / 4)
            · rw [← z, g2, show e + 1 - 1 = e from rfl] at y6
              omega
            · have := (y11 (og m e - 1) (by omega) rfl (by rw [g2]; omega) (by omega)).1
              have := (E.1 (og m e - 1) (by omega) this).2.1
              rw [g2, show e + 1 - 1 = e from rfl, hu'] at this
              exact this b2
          · rcases te e he h0 (by rw [hu']; exact b1) with ⟨z1, z2⟩ | ⟨z1, z2⟩
            · rw [hu'] at z1 z2
              rcases hd with hd | hd
              · exact absurd z2 hd
              · exact absurd hd z1
            · have := (hpe _ hw c' z1).2.2.2.2.1
              rw [← z2, g2, show e + 1 - 1 = e from rfl, hu'] at this
              omega
        by_cases z : e = pe u
        · exact nb f x2 x5 x7 x9 (Or.inl (by omega))
        · exact nb e x1 x4 x6 x8 (Or.inl z)
    obtain ⟨u, b1, b2, b3⟩ := climb 10
    have := (bf.2.2.2.1 u (by have := in2 u (cn_ u b1); omega)).1
    omega
  · have all1 : ∀ v, Cn (og m) a v → s 1 v ≠ 0 := fun v hc q => und ⟨v, hc, q⟩
    have climb : ∀ n, ∃ u, Cn (og m) a u ∧ n < s 1 u := by
      intro n
      induction n with
      | zero => exact ⟨a, Cn.refl _ _, by have := all1 a (Cn.refl _ _); omega⟩
      | succ n ih =>
        obtain ⟨u, b1, b2⟩ := ih
        have hu := in2 u b1
        obtain ⟨y1, y2, y3, y4, y5, y6, y7, y8, y9, y10, y11⟩ := E.2.1 u (by omega) (by omega)
        obtain ⟨f, hf⟩ : ∃ f, f = s 2 u - 1 := ⟨_, rfl⟩
        rw [← hf] at y4 y5 y6 y10
        have hf40 : f < 40 := by omega
        obtain ⟨g1, g2, g3⟩ := g f hf40 y5
        have c' : Cn (og m) a ((og m f - 1) / 4) := Cn.step hf40 y5 (by rw [y4]; exact b1)
        have hw : (og m f - 1) / 4 < 10 := by omega
        refine ⟨_, c', ?_⟩
        obtain ⟨z1, z2, z3, z4, z5, z6, z7, z8, z9, z10, z11⟩ := E.2.1 _ hw (all1 _ c')
        have len := (ok.2.2.2.2 f hf40 y5).2.2.1
        by_cases q : og m f = s 2 ((og m f - 1) / 4)
        · have := nomu u b1
          have t : mu (og m) s u = true := mu_t.mpr ⟨y2, by rw [← hf]; exact q.symm⟩
          rw [t] at this
          exact absurd this (by simp)
        · have := (z11 (og m f - 1) (by omega) rfl (by rw [g2]; omega) (by omega)).2
          omega
    obtain ⟨u, b1, b2⟩ := climb 700
    have := (E.2.1 u (by have := in2 u b1; omega) (by omega)).1
    omega
/-- of the bits only the root's and its rival's are taken -/
theorem root_k {m wt : Nat → Nat} {s : Es} (fs : FS m wt s) {r v : Nat} (hv : v < 10) (hR : Rf m s r ≠ 0) (hc : Cn (og m) r v) : Kf m s v = 0 ∨ Kf m s v = Kf m s r := by
  have g := fs.1.2.2.2.1
  have E := fs.2.1
  cases hm : mu (og m) s v with
  | false => left; unfold Kf; rw [hm, Kd_f]
  | true =>
    right
    obtain ⟨e, q1, q2, q3, q4, q5, q6, q7⟩ := mu_el g E hv hm
    obtain ⟨p1, p2, p3, p4⟩ := el_mu g q2 q3 q4 q5 q6
    obtain ⟨g1, g2, g3⟩ := g e q2 q3
    have c1 : Cn (og m) r (e / 4) := by
      rcases q7 with z | z
      · rw [← z]; exact hc
      · have := Cn.step (o := og m) (a := r) (e := og m e - 1) (by omega) (by rw [g2]; omega) (by rw [← z]; exact hc)
        rw [g2] at this
        exact this
    have c2 : Cn (og m) r ((og m e - 1) / 4) := Cn.step q2 q3 c1
    have kv : Kf m s v = (CWe (og m) m s e).2.1 := by unfold Kf Kd; rw [if_pos hm, q1]
    by_cases w : wno (og m) m s e = e / 4
    · have := root_one fs (by omega) hR (Rf_c.mpr (Or.inr ⟨p1, by rw [p2]; exact w⟩)) c1
      rw [kv, ← this]
      unfold Kf Kd
      rw [if_pos p1, p2]
    · have w' : wno (og m) m s e = (og m e - 1) / 4 := by
        unfold wno at w ⊢
        by_cases y : (CWe (og m) m s e).2.2 = 1
        · rw [if_pos y] at w; exact absurd rfl w
        · rw [if_neg y]
      have := root_one fs (by omega) hR (Rf_c.mpr (Or.inr ⟨p3, by rw [p4]; exact w'⟩)) c2
      rw [kv, ← this]
      unfold Kf Kd
      rw [if_pos p3, p4]
theorem root_tree {m wt : Nat → Nat} {s : Es} (fs : FS m wt s) {r : Nat} (hr : r < 10) (hR : Rf m s r ≠ 0) : ¬ sz (og m) r ≤ cb (og m) r := by
  have := root_few fs hr hR
  unfold sz cb
  generalize ct (eb (og m) r) 40 = x at this ⊢
  generalize ct (nb (og m) r) 10 = y at this ⊢
  omega
