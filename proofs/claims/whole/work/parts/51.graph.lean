-- graphs over 10 nodes of 4 ends each: o e = 0 (no cable) or the other end + 1
noncomputable def bo (P : Prop) : Bool := @decide P (Classical.propDecidable P)
theorem bo_t {P : Prop} : (bo P = true) = P := by
  unfold bo
  exact propext (@decide_eq_true_iff P (Classical.propDecidable P))
theorem bo_f {P : Prop} (h : ¬ P) : bo P = false := by
  cases hb : bo P with
  | false => rfl
  | true => exact absurd (bo_t.mp hb) h
theorem bo_p {P : Prop} (h : P) : bo P = true := bo_t.mpr h
/-- how many i below n have p -/
def ct (p : Nat → Bool) : Nat → Nat
  | 0 => 0
  | n + 1 => ct p n + (if p n then 1 else 0)
theorem ct_congr {p q : Nat → Bool} {n : Nat} (h : ∀ i, i < n → p i = q i) : ct p n = ct q n := by
  induction n with
  | zero => rfl
  | succ n ih =>
    unfold ct
    rw [ih (fun i hi => h i (by omega)), h n (by omega)]
theorem ct_mono {p q : Nat → Bool} {n : Nat} (h : ∀ i, i < n → p i = true → q i = true) : ct p n ≤ ct q n := by
  induction n with
  | zero => exact Nat.le_refl _
  | succ n ih =>
    unfold ct
    have h1 := ih (fun i hi => h i (by omega))
    have h2 := h n (by omega)
    cases hp : p n with
    | false => simp; omega
    | true => rw [h2 hp]; simp; omega
theorem ct_le (p : Nat → Bool) (n : Nat) : ct p n ≤ n := by
  induction n with
  | zero => exact Nat.le_refl _
  | succ n ih =>
    unfold ct
    split <;> omega
/-- one taken away -/
theorem ct_del {q : Nat → Bool} {j n : Nat} (hj : j < n) (hq : q j = true) : ct (fun i => q i && !(i == j)) n + 1 = ct q n := by
  induction n with
  | zero => omega
  | succ n ih =>
    unfold ct
    by_cases h : j = n
    · subst h
      have : ct (fun i => q i && !(i == j)) j = ct q j := ct_congr (fun i hi => by
        have : (i == j) = false := by simp; omega
        simp [this])
      rw [this, hq]
      simp
    · have h1 := ih (by omega)
      have : (n == j) = false := by simp; omega
      simp only [this]
      cases q n <;> simp <;> omega
theorem ct_inj {p q : Nat → Bool} (f : Nat → Nat) {n k : Nat} (h1 : ∀ i, i < n → p i = true → f i < k ∧ q (f i) = true) (h2 : ∀ i j, i < n → j < n → p i = true → p j = true → f i = f j → i = j) : ct p n ≤ ct q k := by
  induction n generalizing q with
  | zero => exact Nat.zero_le _
  | succ n ih =>
    show ct p n + (if p n = true then 1 else 0) ≤ ct q k
    cases hp : p n with
    | false =>
      simp
      exact ih (fun i hi => h1 i (by omega)) (fun i j hi hj => h2 i j (by omega) (by omega))
    | true =>
      obtain ⟨a1, a2⟩ := h1 n (by omega) hp
      have h3 := ih (q := fun i => q i && !(i == f n)) (fun i hi hpi => by
        obtain ⟨b1, b2⟩ := h1 i (by omega) hpi
        refine ⟨b1, ?_⟩
        have : (f i == f n) = false := by
          simp
          intro hh
          have := h2 i n (by omega) (by omega) hpi hp hh
          omega
        simp [b2, this]) (fun i j hi hj => h2 i j (by omega) (by omega))
      have h4 := ct_del a1 a2
      simp
      omega
theorem ct_eq_all {p q : Nat → Bool} {n : Nat} (h : ∀ i, i < n → p i = true → q i = true) (hc : ct q n ≤ ct p n) : ∀ i, i < n → q i = true → p i = true := by
  induction n with
  | zero => intro i hi; omega
  | succ n ih =>
    have h1 := ct_mono (n := n) (p := p) (q := q) (fun i hi => h i (by omega))
    have h2 := h n (by omega)
    unfold ct at hc
    intro i hi hq
    cases hp : p n with
    | true =>
      rw [hp, h2 hp] at hc
      simp at hc
      by_cases e : i = n
      · subst e; exact hp
      · exact ih (fun i hi => h i (by omega)) hc i (by omega) hq
    | false =>
      rw [hp] at hc
      cases hqn : q n with
      | true => rw [hqn] at hc; simp at hc; omega
      | false =>
        rw [hqn] at hc
        simp at hc
        by_cases e : i = n
        · subst e; rw [hqn] at hq; cases hq
        · exact ih (fun i hi => h i (by omega)) hc i (by omega) hq
theorem ct_or {p q r : Nat → Bool} {n : Nat} (h : ∀ i, i < n → r i = true → p i = true ∨ q i = true) : ct r n ≤ ct p n + ct q n := by
  induction n with
  | zero => exact Nat.zero_le _
  | succ n ih =>
    unfold ct
    have h1 := ih (fun i hi => h i (by omega))
    have h2 := h n (by omega)
    cases hr : r n with
    | false => simp; omega
    | true =>
      rcases h2 hr with z | z
      · rw [z]; simp; omega
      · rw [z]; simp; omega
theorem ct_or_eq {p q r : Nat → Bool} {n : Nat} (h : ∀ i, i < n → (r i = true ↔ p i = true ∨ q i = true)) (hd : ∀ i, i < n → p i = true → q i = false) : ct r n = ct p n + ct q n := by
  induction n with
  | zero => rfl
  | succ n ih =>
    unfold ct
    have h1 := ih (fun i hi => h i (by omega)) (fun i hi => hd i (by omega))
    have h2 := h n (by omega)
    have h3 := hd n (by omega)
    cases hp : p n with
    | true =>
      have : r n = true := h2.mpr (Or.inl hp)
      rw [this, h3 hp]; simp; omega
    | false =>
      cases hq : q n with
      | true =>
        have : r n = true := h2.mpr (Or.inr hq)
        rw [this]; simp; omega
      | false =>
        have : r n = false := by
          cases hr : r n with
          | false => rfl
          | true => rcases h2.mp hr with z | z <;> simp_all
        rw [this]; simp; omega
/-- a graph -/
def Gr (o : Nat → Nat) : Prop := ∀ e, e < 40 → o e ≠ 0 → o e ≤ 40 ∧ o (o e - 1) = e + 1 ∧ (o e - 1) / 4 ≠ e / 4
def aj (o : Nat → Nat) (v w : Nat) : Prop := ∃ e, e < 40 ∧ e / 4 = v ∧ o e ≠ 0 ∧ (o e - 1) / 4 = w
def Cn (o : Nat → Nat) (v w : Nat) : Prop := ∀ S : Nat → Prop, (∀ a b, aj o a b → S a → S b) → S v → S w
theorem aj.symm {o : Nat → Nat} (g : Gr o) {v w : Nat} (h : aj o v w) : aj o w v := by
  obtain ⟨e, h1, h2, h3, h4⟩ := h
  obtain ⟨g1, g2, g3⟩ := g e h1 h3
  exact ⟨o e - 1, by omega, h4, by omega, by rw [g2]; simpa using h2⟩
theorem aj.lt {o : Nat → Nat} (g : Gr o) {v w : Nat} (h : aj o v w) : v < 10 ∧ w < 10 := by
  obtain ⟨e, h1, h2, h3, h4⟩ := h
  obtain ⟨g1, g2, g3⟩ := g e h1 h3
  omega
theorem Cn.refl (o : Nat → Nat) (v : Nat) : Cn o v v := fun S _ h => h
theorem Cn.trans {o : Nat → Nat} {u v w : Nat} (h1 : Cn o u v) (h2 : Cn o v w) : Cn o u w := fun S hS h => h2 S hS (h1 S hS h)
theorem Cn.one {o : Nat → Nat} {v w : Nat} (h : aj o v w) : Cn o v w := fun S hS hv => hS v w h hv
theorem Cn.symm {o : Nat → Nat} (g : Gr o) {v w : Nat} (h : Cn o v w) : Cn o w v :=
  h (fun x => Cn o x v) (fun a b hab ha => (Cn.one (hab.symm g)).trans ha) (Cn.refl o v)
theorem Cn.lt {o : Nat → Nat} (g : Gr o) {v w : Nat} (h : Cn o v w) (hv : v < 10) : w < 10 :=
  h (fun x => x < 10) (fun a b hab _ => (hab.lt g).2) hv
/-- the ends of the bus of a that have a cable -/
noncomputable def eb (o : Nat → Nat) (a : Nat) : Nat → Bool := fun e => bo (o e ≠ 0 ∧ Cn o a (e / 4))
noncomputable def nb (o : Nat → Nat) (a : Nat) : Nat → Bool := fun v => bo (Cn o a v)
/-- ends that lead to a node's parent -/
noncomputable def pf (o : Nat → Nat) (a : Nat) (pe : Nat → Nat) : Nat → Bool := fun e => bo (o e ≠ 0 ∧ Cn o a (e / 4) ∧ e / 4 ≠ a ∧ e = pe (e / 4))
noncomputable def pg (o : Nat → Nat) (a : Nat) (pe : Nat → Nat) : Nat → Bool := fun e => bo (o e ≠ 0 ∧ Cn o a (e / 4) ∧ (o e - 1) / 4 ≠ a ∧ o e - 1 = pe ((o e - 1) / 4))
theorem Cn.step {o : Nat → Nat} {a e : Nat} (he : e < 40) (h0 : o e ≠ 0) (h : Cn o a (e / 4)) : Cn o a ((o e - 1) / 4) := h.trans (Cn.one ⟨e, he, rfl, h0, rfl⟩)
theorem pf_le (o : Nat → Nat) {a : Nat} (ha : a < 10) (pe : Nat → Nat) : ct (pf o a pe) 40 + 1 ≤ ct (nb o a) 10 := by
  have h1 : ct (pf o a pe) 40 ≤ ct (fun v => nb o a v && !(v == a)) 10 := by
    refine ct_inj (fun e => e / 4) (fun e he hp => ?_) (fun i j hi hj hp hq hij => ?_)
    · obtain ⟨b1, b2, b3, b4⟩ := bo_t.mp hp
      refine ⟨by omega, ?_⟩
      have : nb o a (e / 4) = true := bo_p b2
      rw [this]
      simp [b3]
    · obtain ⟨b1, b2, b3, b4⟩ := bo_t.mp hp
      obtain ⟨c1, c2, c3, c4⟩ := bo_t.mp hq
      have hij : i / 4 = j / 4 := hij
      rw [b4, c4, hij]
  have h2 := ct_del (q := nb o a) ha (bo_p (Cn.refl o a))
  omega
theorem pg_le {o : Nat → Nat} (g : Gr o) (a : Nat) (pe : Nat → Nat) : ct (pg o a pe) 40 ≤ ct (pf o a pe) 40 := by
  refine ct_inj (fun e => o e - 1) (fun e he hp => ?_) (fun i j hi hj hp hq hij => ?_)
  · obtain ⟨b1, b2, b3, b4⟩ := bo_t.mp hp
    obtain ⟨g1, g2, g3⟩ := g e he b1
    refine ⟨by omega, bo_p ⟨by omega, Cn.step he b1 b2, b3, b4⟩⟩
  · obtain ⟨b1, b2, b3, b4⟩ := bo_t.mp hp
    obtain ⟨c1, c2, c3, c4⟩ := bo_t.mp hq
    obtain ⟨g1, g2, g3⟩ := g i hi b1
    obtain ⟨k1, k2, k3⟩ := g j hj c1
    have hij : o i - 1 = o j - 1 := hij
    rw [hij] at g2
    omega
/-- if every cable of a bus leads one of its ends to its parent, there are fewer cables than nodes -/
theorem few_ends {o : Nat → Nat} (g : Gr o) {a : Nat} (ha : a < 10) (pe : Nat → Nat) (h : ∀ e, e < 40 → o e ≠ 0 → Cn o a (e / 4) → (e / 4 ≠ a ∧ e = pe (e / 4)) ∨ ((o e - 1) / 4 ≠ a ∧ o e - 1 = pe ((o e - 1) / 4))) : ct (eb o a) 40 + 2 ≤ 2 * ct (nb o a) 10 := by
  have h1 : ct (eb o a) 40 ≤ ct (pf o a pe) 40 + ct (pg o a pe) 40 := ct_or (fun e he hp => by
    obtain ⟨b1, b2⟩ := bo_t.mp hp
    rcases h e he b1 b2 with ⟨z1, z2⟩ | ⟨z1, z2⟩
    · exact Or.inl (bo_p ⟨b1, b2, z1, z2⟩)
    · exact Or.inr (bo_p ⟨b1, b2, z1, z2⟩))
  have h2 := pf_le o ha pe
  have h3 := pg_le g a pe
  omega
/-- if every node of a bus but a has a parent end, none mutual, there are as many ends; so with few cables each one is a parent's -/
theorem all_ends {o : Nat → Nat} (g : Gr o) {a : Nat} (ha : a < 10) (pe rk : Nat → Nat) (hpe : ∀ v, v < 10 → Cn o a v → v ≠ a → pe v < 40 ∧ pe v / 4 = v ∧ o (pe v) ≠ 0 ∧ rk ((o (pe v) - 1) / 4) < rk v) (hfew : ct (eb o a) 40 + 2 ≤ 2 * ct (nb o a) 10) : ∀ e, e < 40 → o e ≠ 0 → Cn o a (e / 4) → (e / 4 ≠ a ∧ e = pe (e / 4)) ∨ ((o e - 1) / 4 ≠ a ∧ o e - 1 = pe ((o e - 1) / 4)) := by
  have k1 : ct (fun v => nb o a v && !(v == a)) 10 ≤ ct (pf o a pe) 40 := by
    refine ct_inj pe (fun v hv hp => ?_) (fun i j hi hj hp hq hij => ?_)
    · simp only [Bool.and_eq_true, Bool.not_eq_true', beq_eq_false_iff_ne] at hp
      obtain ⟨b1, b2, b3, b4⟩ := hpe v hv (bo_t.mp hp.1) hp.2
      refine ⟨b1, bo_p ⟨b3, ?_, ?_, ?_⟩⟩
      · rw [b2]; exact bo_t.mp hp.1
      · rw [b2]; exact hp.2
      · rw [b2]
    · simp only [Bool.and_eq_true, Bool.not_eq_true', beq_eq_false_iff_ne] at hp hq
      obtain ⟨b1, b2, b3, b4⟩ := hpe i hi (bo_t.mp hp.1) hp.2
      obtain ⟨c1, c2, c3, c4⟩ := hpe j hj (bo_t.mp hq.1) hq.2
      rw [← b2, ← c2, hij]
  have k2 := ct_del (q := nb o a) ha (bo_p (Cn.refl o a))
  have k3 : ct (pf o a pe) 40 ≤ ct (pg o a pe) 40 := by
    refine ct_inj (fun e => o e - 1) (fun e he hp => ?_) (fun i j hi hj hp hq hij => ?_)
    · obtain ⟨b1, b2, b3, b4⟩ := bo_t.mp hp
      obtain ⟨g1, g2, g3⟩ := g e he b1
      refine ⟨by omega, bo_p ⟨by omega, Cn.step he b1 b2, ?_, ?_⟩⟩
      · rw [g2]; simpa using b3
      · rw [g2]; simpa using b4
    · obtain ⟨b1, b2, b3, b4⟩ := bo_t.mp hp
      obtain ⟨c1, c2, c3, c4⟩ := bo_t.mp hq
      obtain ⟨g1, g2, g3⟩ := g i hi b1
      obtain ⟨k1, k2, k3⟩ := g j hj c1
      have hij : o i - 1 = o j - 1 := hij
      rw [hij] at g2
      omega
  have k4 : ct (fun e => pf o a pe e || pg o a pe e) 40 = ct (pf o a pe) 40 + ct (pg o a pe) 40 := by
    refine ct_or_eq (fun i hi => by simp) (fun i hi hp => ?_)
    obtain ⟨b1, b2, b3, b4⟩ := bo_t.mp hp
    apply bo_f
    rintro ⟨c1, c2, c3, c4⟩
    obtain ⟨g1, g2, g3⟩ := g i hi b1
    have r1 := (hpe (i / 4) (by omega) b2 b3).2.2.2
    rw [← b4] at r1
    have r2 := (hpe ((o i - 1) / 4) (by omega) (Cn.step hi b1 b2) c3).2.2.2
    rw [← c4, g2] at r2
    simp at r2
    omega
  have k5 := ct_eq_all (n := 40) (p := fun e => pf o a pe e || pg o a pe e) (q := eb o a) (fun i hi hp => by
    simp only [Bool.or_eq_true] at hp
    rcases hp with hp | hp
    · obtain ⟨b1, b2, b3, b4⟩ := bo_t.mp hp
      exact bo_p ⟨b1, b2⟩
    · obtain ⟨b1, b2, b3, b4⟩ := bo_t.mp hp
      exact bo_p ⟨b1, b2⟩) (by omega)
  intro e he h0 hc
  have := k5 e he (bo_p ⟨h0, hc⟩)
  simp only [Bool.or_eq_true] at this
  rcases this with hp | hp
  · obtain ⟨b1, b2, b3, b4⟩ := bo_t.mp hp
    exact Or.inl ⟨b3, b4⟩
  · obtain ⟨b1, b2, b3, b4⟩ := bo_t.mp hp
    exact Or.inr ⟨b3, b4⟩
