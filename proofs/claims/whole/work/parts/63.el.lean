-- the election as a pure run: s 0 e: heard at end e (tick + 1, 0 never), s 1 v: called at (tick + 1), s 2 v: by which end (+ 1), s 3 v: able since (tick + 1), s 4 v: root at (tick + 1)
abbrev Es : Type := Nat → Nat → Nat
def u2 (s : Es) (k j x : Nat) : Es := fun a b => if a = k ∧ b = j then x else s a b
theorem u2_s (s : Es) (k j x : Nat) : u2 s k j x k j = x := by simp [u2]
theorem u2_k {s : Es} {k j x a b : Nat} (h : a ≠ k) : u2 s k j x a b = s a b := by simp [u2, h]
theorem u2_j {s : Es} {k j x b : Nat} (h : b ≠ j) : u2 s k j x k b = s k b := by simp [u2, h]
theorem u2_id {s : Es} {k j x : Nat} (h : s k j = x) : u2 s k j x = s := by
  funext a b
  by_cases z : a = k ∧ b = j
  · obtain ⟨rfl, rfl⟩ := z
    simp [u2, h]
  · simp only [u2, z, if_false]
/-- the end is silent for a node at a tick -/
noncomputable def si (o : Nat → Nat) (s : Es) (t v : Nat) : Nat → Bool := fun p => bo (o (4 * v + p) ≠ 0 ∧ (s 0 (4 * v + p) = 0 ∨ t + 1 < s 0 (4 * v + p)))
/-- the last place that has it, + 1 -/
def lp (q : Nat → Bool) : Nat → Nat
  | 0 => 0
  | n + 1 => if q n = true then n + 1 else lp q n
theorem lp_spec (q : Nat → Bool) (n : Nat) : lp q n ≤ n ∧ (lp q n ≠ 0 → q (lp q n - 1) = true) ∧ (lp q n = 0 → ct q n = 0) := by
  induction n with
  | zero => exact ⟨Nat.le_refl _, fun h => absurd rfl h, fun _ => rfl⟩
  | succ n ih =>
    obtain ⟨h1, h2, h3⟩ := ih
    unfold lp
    cases hq : q n with
    | true =>
      rw [if_pos rfl]
      refine ⟨Nat.le_refl _, fun _ => ?_, fun z => absurd z (by omega)⟩
      simpa using hq
    | false =>
      rw [if_neg (by simp)]
      refine ⟨by omega, h2, fun z => ?_⟩
      rw [ct_succ, h3 z, hq]
      rfl
/-- a node calls by its port p -/
def cl (o m : Nat → Nat) (t v p : Nat) (s : Es) : Es := u2 (u2 (u2 s 1 v (t + 1)) 2 v (4 * v + p + 1)) 0 (o (4 * v + p) - 1) (t + m (85 + (4 * v + p)) + 1)
/-- a node at a tick -/
noncomputable def es (o m wt : Nat → Nat) (t v : Nat) (s : Es) : Es :=
  if s 1 v ≠ 0 ∨ s 4 v ≠ 0 then s
  else if ct (si o s t v) 4 = 0 then u2 s 4 v (t + 1)
  else if ct (si o s t v) 4 = 1 then
    (if (if s 3 v = 0 then t else s 3 v - 1) + wt v ≤ t then cl o m t v (lp (si o s t v) 4 - 1) (u2 s 3 v (if s 3 v = 0 then t + 1 else s 3 v)) else u2 s 3 v (if s 3 v = 0 then t + 1 else s 3 v))
  else s
noncomputable def eT (o m wt : Nat → Nat) (t : Nat) : Nat → Es → Es
  | 0, s => s
  | n + 1, s => es o m wt t n (eT o m wt t n s)
noncomputable def rM (o m wt : Nat → Nat) (n : Nat) : Nat → Es
  | 0 => fun _ _ => 0
  | t + 1 => eT o m wt t n (rM o m wt n t)
/-- a node has settled what it does at tick t -/
def sd (o m wt : Nat → Nat) (t v : Nat) (s : Es) : Prop := s 1 v ≠ 0 ∨ s 4 v ≠ 0 ∨ 2 ≤ ct (si o s t v) 4 ∨ (ct (si o s t v) 4 = 1 ∧ s 3 v ≠ 0 ∧ t < s 3 v - 1 + wt v)
/-- settled, and nothing comes or is due between: a later tick changes nothing -/
theorem es_idle {o m wt : Nat → Nat} {t u v : Nat} {s : Es} (h : sd o m wt t v s) (htu : t ≤ u) (h1 : ∀ p, p < 4 → s 0 (4 * v + p) = 0 ∨ s 0 (4 * v + p) ≤ t + 1 ∨ u + 1 < s 0 (4 * v + p)) (h2 : s 3 v ≠ 0 → s 3 v - 1 + wt v ≤ t ∨ u < s 3 v - 1 + wt v) : es o m wt u v s = s := by
  have hc : ct (si o s u v) 4 = ct (si o s t v) 4 := ct_congr (p := si o s u v) (q := si o s t v) (n := 4) (fun p hp => by
    unfold si
    congr 1
    apply propext
    have := h1 p hp
    constructor
    · rintro ⟨z1, z2⟩
      exact ⟨z1, by omega⟩
    · rintro ⟨z1, z2⟩
      exact ⟨z1, by omega⟩)
  unfold es
  by_cases d : s 1 v ≠ 0 ∨ s 4 v ≠ 0
  · rw [if_pos d]
  · rw [if_neg d, hc]
    rcases h with z | z | z | ⟨z1, z2, z3⟩
    · exact absurd (Or.inl z) d
    · exact absurd (Or.inr z) d
    · rw [if_neg (by omega), if_neg (by omega)]
    · rw [if_neg (by omega), if_pos z1, if_neg z2, if_neg z2]
      have := h2 z2
      rw [if_neg (by omega)]
      exact u2_id rfl
theorem eT_idle {o m wt : Nat → Nat} {t n : Nat} {s : Es} (h : ∀ v, v < n → es o m wt t v s = s) : eT o m wt t n s = s := by
  induction n with
  | zero => rfl
  | succ n ih =>
    unfold eT
    rw [ih (fun v hv => h v (by omega))]
    exact h n (by omega)

/-- in tick t, nodes below i are through: what holds -/
def EM (o m wt : Nat → Nat) (t i : Nat) (s : Es) : Prop :=
  (∀ e, e < 40 → s 0 e ≠ 0 → o e ≠ 0 ∧ s 1 ((o e - 1) / 4) ≠ 0 ∧ s 2 ((o e - 1) / 4) = o e) ∧
  (∀ v, v < 10 → s 1 v ≠ 0 → s 1 v ≤ t + 1 ∧ s 2 v ≠ 0 ∧ s 2 v ≤ 40 ∧ (s 2 v - 1) / 4 = v ∧ o (s 2 v - 1) ≠ 0 ∧ s 0 (o (s 2 v - 1) - 1) = s 1 v + m (85 + (s 2 v - 1)) ∧ s 4 v = 0 ∧ s 3 v ≠ 0 ∧ s 3 v + wt v ≤ s 1 v ∧ (s 0 (s 2 v - 1) = 0 ∨ s 1 v < s 0 (s 2 v - 1)) ∧ ∀ e, e < 40 → e / 4 = v → o e ≠ 0 → e + 1 ≠ s 2 v → s 0 e ≠ 0 ∧ s 0 e ≤ s 1 v) ∧
  (∀ v, v < 10 → s 4 v ≠ 0 → s 4 v ≤ t + 1 ∧ s 1 v = 0 ∧ ∀ e, e < 40 → e / 4 = v → o e ≠ 0 → s 0 e ≠ 0 ∧ s 0 e ≤ s 4 v) ∧
  (∀ v, v < 10 → s 1 v = 0 → s 2 v = 0) ∧
  (∀ v, v < 10 → s 3 v ≤ t + 1) ∧
  (∀ v, v < 10 → s 3 v ≠ 0 → s 1 v = 0 → s 4 v = 0 → t ≤ s 3 v - 1 + wt v) ∧
  (∀ e, e < 40 → s 0 e ≤ t + 10) ∧
  (∀ v, v < i → sd o m wt t v s) ∧
  (∀ v, m 2 ≤ v → s 1 v = 0 ∧ s 3 v = 0 ∧ s 4 v = 0) ∧
  ∀ v, v < 10 → s 3 v ≠ 0 → ct (si o s t v) 4 ≤ 1
theorem EM_0 (o m wt : Nat → Nat) : EM o m wt 0 0 (fun _ _ => 0) :=
  ⟨fun _ _ h => absurd rfl h, fun _ _ h => absurd rfl h, fun _ _ h => absurd rfl h, fun _ _ _ => rfl, fun _ _ => Nat.zero_le _, fun _ _ h => absurd rfl h, fun _ _ => Nat.zero_le _, fun v hv => absurd hv (by omega), fun _ _ => ⟨rfl, rfl, rfl⟩, fun _ _ h => absurd rfl h⟩
theorem si_t {o : Nat → Nat} {s : Es} {t v p : Nat} : (si o s t v p = true) = (o (4 * v + p) ≠ 0 ∧ (s 0 (4 * v + p) = 0 ∨ t + 1 < s 0 (4 * v + p))) := bo_t
theorem ct_zero {p : Nat → Bool} {n : Nat} (h : ct p n = 0) : ∀ i, i < n → p i = false := by
  induction n with
  | zero => intro i hi; omega
  | succ n ih =>
    rw [ct_succ] at h
    intro i hi
    by_cases z : i = n
    · subst z
      cases hp : p i with
      | false => rfl
      | true => rw [hp] at h; simp at h
    · exact ih (by omega) i (by omega)
theorem ct_one {p : Nat → Bool} {n j : Nat} (h : ct p n = 1) (hj : j < n) (hp : p j = true) : ∀ i, i < n → i ≠ j → p i = false := by
  have h1 := ct_del hj hp
  have h2 := ct_zero (p := fun i => p i && !(i == j)) (n := n) (by omega)
  intro i hi hij
  have := h2 i hi
  have e : (i == j) = false := by simp [hij]
  simpa [e] using this
theorem EM_step {m wt : Nat → Nat} {t i : Nat} {s : Es} (ok : OkG m) (hi : i < m 2) (E : EM (og m) m wt t i s) : EM (og m) m wt t (i + 1) (es (og m) m wt t i s) := by
  have g := ok.2.2.2.1
  have h2 := ok.2.1
  have hi10 : i < 10 := by omega
  obtain ⟨e1, e2, e3, e4, e5, e6, e7, e8, e9, e10⟩ := E
  have fin : ∀ v, v < i + 1 → v = i ∨ v < i := fun v hv => by omega
  unfold es
  by_cases d : s 1 i ≠ 0 ∨ s 4 i ≠ 0
  · rw [if_pos d]
    refine ⟨e1, e2, e3, e4, e5, e6, e7, fun v hv => ?_, e9, e10⟩
    rcases fin v hv with rfl | z
    · rcases d with d | d
      · exact Or.inl d
      · exact Or.inr (Or.inl d)
    · exact e8 v z
  · rw [if_neg d]
    have d1 : s 1 i = 0 := by omega
    have d4 : s 4 i = 0 := by omega
    by_cases c0 : ct (si (og m) s t i) 4 = 0
    · rw [if_pos c0]
      have hz := ct_zero c0
      have k0 : ∀ e, u2 s 4 i (t + 1) 0 e = s 0 e := fun e => u2_k (by omega)
      have k1 : ∀ v, u2 s 4 i (t + 1) 1 v = s 1 v := fun e => u2_k (by omega)
      have k2 : ∀ v, u2 s 4 i (t + 1) 2 v = s 2 v := fun e => u2_k (by omega)
      have k3 : ∀ v, u2 s 4 i (t + 1) 3 v = s 3 v := fun e => u2_k (by omega)
      have k4 : ∀ v, v ≠ i → u2 s 4 i (t + 1) 4 v = s 4 v := fun v hv => u2_j hv
      have ks : ∀ v, si (og m) (u2 s 4 i (t + 1)) t v = si (og m) s t v := fun v => by
        funext p
        unfold si
        rw [k0]
      refine ⟨fun e he h0 => ?_, fun v hv h0 => ?_, fun v hv h0 => ?_, fun v hv h0 => ?_, fun v hv => ?_, fun v hv h0 h1 h4 => ?_, fun e he => ?_, fun v hv => ?_, fun v hv => ?_, fun v hv h0 => ?_⟩
      · rw [k0] at h0; rw [k1, k2]; exact e1 e he h0
      · rw [k1] at h0
        have hvi : v ≠ i := by intro z; rw [z] at h0; exact h0 d1
        simp only [k0, k1, k2, k3, k4 v hvi]
        exact e2 v hv h0
      · by_cases z : v = i
        · subst z
          rw [u2_s, k1]
          refine ⟨Nat.le_refl _, d1, fun e he hev h0 => ?_⟩
          rw [k0]
          have hp := hz (e % 4) (by omega)
          have ee : 4 * v + e % 4 = e := by omega
          have hn : ¬ (og m (4 * v + e % 4) ≠ 0 ∧ (s 0 (4 * v + e % 4) = 0 ∨ t + 1 < s 0 (4 * v + e % 4))) := fun q => by
            have := bo_p q
            unfold si at hp
            rw [this] at hp
            cases hp
          rw [ee] at hn
          have hnn : ¬ (s 0 e = 0 ∨ t + 1 < s 0 e) := fun q => hn ⟨h0, q⟩
          omega
        · rw [k4 v z] at h0 ⊢
          simp only [k0, k1]
          exact e3 v hv h0
      · rw [k1] at h0; rw [k2]; exact e4 v hv h0
      · rw [k3]; exact e5 v hv
      · rw [k3] at h0 ⊢
        rw [k1] at h1
        by_cases z : v = i
        · rw [z, u2_s] at h4; omega
        · rw [k4 v z] at h4; exact e6 v hv h0 h1 h4
      · rw [k0]; exact e7 e he
      · rcases fin v hv with rfl | z
        · exact Or.inr (Or.inl (by rw [u2_s]; omega))
        · have zi : v ≠ i := by omega
          unfold sd
          rw [k1, k3, k4 v zi, ks]
          exact e8 v z
      · rw [k1, k3, k4 v (by omega)]; exact e9 v hv
      · rw [k3] at h0; rw [ks]; exact e10 v hv h0
    · rw [if_neg c0]
      by_cases c1 : ct (si (og m) s t i) 4 = 1
      · rw [if_pos c1]
        obtain ⟨ab, hab⟩ : ∃ ab, ab = (if s 3 i = 0 then t + 1 else s 3 i) := ⟨_, rfl⟩
        have hab1 : (if s 3 i = 0 then t else s 3 i - 1) = ab - 1 := by
          rw [hab]
          by_cases z : s 3 i = 0
          · rw [if_pos z, if_pos z]; rfl
          · rw [if_neg z, if_neg z]
        have hab0 : ab ≠ 0 := by
          rw [hab]
          by_cases z : s 3 i = 0
          · rw [if_pos z]; omega
          · rw [if_neg z]; exact z
        have habt : ab ≤ t + 1 := by
          rw [hab]
          have := e5 i hi10
          by_cases z : s 3 i = 0
          · rw [if_pos z]; omega
          · rw [if_neg z]; omega
        rw [hab1, ← hab]
        by_cases due : ab - 1 + wt i ≤ t
        · rw [if_pos due]
          obtain ⟨p1, p2, p3⟩ := lp_spec (si (og m) s t i) 4
          have pz : lp (si (og m) s t i) 4 ≠ 0 := fun z => c0 (p3 z)
          have psi := p2 pz
          obtain ⟨p, hp⟩ : ∃ p, p = lp (si (og m) s t i) 4 - 1 := ⟨_, rfl⟩
          rw [← hp] at psi ⊢
          have hp4 : p < 4 := by omega
          have hone := ct_one c1 hp4 psi
          obtain ⟨q1, q2⟩ := si_t.mp psi
          obtain ⟨e0, he0⟩ : ∃ e0, e0 = 4 * i + p := ⟨_, rfl⟩
          rw [← he0] at q1 q2
          have he40 : e0 < 40 := by omega
          obtain ⟨g1, g2, g3⟩ := g e0 he40 q1
          obtain ⟨l1, l2, l3, l4, l5⟩ := ok.2.2.2.2 e0 he40 q1
          obtain ⟨ef, hef⟩ : ∃ ef, ef = og m e0 - 1 := ⟨_, rfl⟩
          rw [← hef] at g2
          have hef40 : ef < 40 := by omega
          have old0 : s 0 ef = 0 := by
            apply Classical.byContradiction
            intro z
            have := (e1 ef hef40 z).2.1
            rw [g2, show (e0 + 1 - 1) / 4 = i by omega] at this
            exact this d1
          obtain ⟨s', es'⟩ : ∃ s', s' = cl (og m) m t i p (u2 s 3 i ab) := ⟨_, rfl⟩
          rw [← es']
          unfold cl at es'
          rw [← he0, ← hef] at es'
          have k0e : s' 0 ef = t + m (85 + e0) + 1 := by rw [es', u2_s]
          have k0 : ∀ e, e ≠ ef → s' 0 e = s 0 e := fun e he => by rw [es', u2_j he, u2_k (by omega), u2_k (by omega), u2_k (by omega)]
          have k1i : s' 1 i = t + 1 := by rw [es', u2_k (by omega), u2_k (by omega), u2_s]
          have k1 : ∀ v, v ≠ i → s' 1 v = s 1 v := fun v hv => by rw [es', u2_k (by omega), u2_k (by omega), u2_j hv, u2_k (by omega)]
          have k2i : s' 2 i = e0 + 1 := by rw [es', u2_k (by omega), u2_s]
          have k2 : ∀ v, v ≠ i → s' 2 v = s 2 v := fun v hv => by rw [es', u2_k (by omega), u2_j hv, u2_k (by omega), u2_k (by omega)]
          have k3i : s' 3 i = ab := by rw [es', u2_k (by omega), u2_k (by omega), u2_k (by omega), u2_s]
          have k3 : ∀ v, v ≠ i → s' 3 v = s 3 v := fun v hv => by rw [es', u2_k (by omega), u2_k (by omega), u2_k (by omega), u2_j hv]
          have k4 : ∀ v, s' 4 v = s 4 v := fun v => by rw [es', u2_k (by omega), u2_k (by omega), u2_k (by omega), u2_k (by omega)]
          clear es'
          have ks : ∀ v, si (og m) s' t v = si (og m) s t v := fun v => by
            funext p'
            unfold si
            by_cases z : 4 * v + p' = ef
            · rw [z, k0e, old0]
              congr 1
              apply propext
              exact ⟨fun y => ⟨y.1, Or.inl rfl⟩, fun y => ⟨y.1, Or.inr (by omega)⟩⟩
            · rw [k0 _ z]
          have eff : ∀ w, w < 10 → s 1 w ≠ 0 → ef / 4 = w → s 2 w = ef + 1 := fun w hw hw1 hwe => by
            apply Classical.byContradiction
            intro z
            have := ((e2 w hw hw1).2.2.2.2.2.2.2.2.2.2 ef hef40 hwe (by omega) (fun y => z y.symm)).1
            exact this old0
          refine ⟨fun e he h0 => ?_, fun v hv h0 => ?_, fun v hv h0 => ?_, fun v hv h0 => ?_, fun v hv => ?_, fun v hv h0 h1 h4 => ?_, fun e he => ?_, fun v hv => ?_, fun v hv => ?_, fun v hv h0 => ?_⟩
          · by_cases z : e = ef
            · rw [z, g2, show (e0 + 1 - 1) / 4 = i by omega, k1i, k2i]
              exact ⟨by omega, by omega, rfl⟩
            · rw [k0 e z] at h0
              obtain ⟨a1, a2, a3⟩ := e1 e he h0
              have ni : (og m e - 1) / 4 ≠ i := by intro y; rw [y] at a2; exact a2 d1
              rw [k1 _ ni, k2 _ ni]
              exact ⟨a1, a2, a3⟩
          · by_cases z : v = i
            · subst z
              rw [k1i, k2i, k3i, k4]
              have ne1 : e0 ≠ ef := by intro y; rw [← y] at g2; omega
              refine ⟨Nat.le_refl _, by omega, by omega, by omega, q1, ?_, d4, hab0, by omega, ?_, fun e he hev h0' hne => ?_⟩
              · show s' 0 (og m e0 - 1) = t + 1 + m (85 + e0)
                rw [← hef, k0e]; omega
              · show s' 0 e0 = 0 ∨ t + 1 < s' 0 e0
                rw [k0 e0 ne1]; exact q2
              · have n2 : e ≠ ef := by
                  intro y
                  rw [y, hef] at hev
                  exact g3 (by omega)
                rw [k0 e n2]
                have hp' := hone (e % 4) (by omega) (by omega)
                have ee : 4 * v + e % 4 = e := by omega
                have hn : ¬ (s 0 e = 0 ∨ t + 1 < s 0 e) := fun y => by
                  have := (si_t (o := og m) (s := s) (t := t) (v := v) (p := e % 4)).mpr (by rw [ee]; exact ⟨h0', y⟩)
                  rw [this] at hp'
                  cases hp'
                omega
            · rw [k1 v z] at h0 ⊢
              rw [k2 v z, k3 v z, k4]
              obtain ⟨a1, a2, a3, a4, a5, a6, a7, a8, a9, a10, a11⟩ := e2 v hv h0
              have n1 : og m (s 2 v - 1) - 1 ≠ ef := by
                intro y
                have b1 := (g (s 2 v - 1) (by omega) a5).2.1
                rw [y, g2] at b1
                omega
              refine ⟨a1, a2, a3, a4, a5, by rw [k0 _ n1]; exact a6, a7, a8, a9, ?_, fun e he hev h0' hne => ?_⟩
              · by_cases y : s 2 v - 1 = ef
                · rw [y, k0e]; exact Or.inr (by omega)
                · rw [k0 _ y]; exact a10
              · have n2 : e ≠ ef := by
                  intro y
                  have := eff v hv h0 (by rw [← y]; exact hev)
                  rw [y] at hne
                  exact hne this.symm
                rw [k0 e n2]
                exact a11 e he hev h0' hne
          · rw [k4] at h0 ⊢
            have z : v ≠ i := by intro y; rw [y] at h0; exact h0 d4
            obtain ⟨a1, a2, a3⟩ := e3 v hv h0
            rw [k1 v z]
            refine ⟨a1, a2, fun e he hev h0' => ?_⟩
            have n2 : e ≠ ef := by
              intro y
              have := (a3 e he hev h0').1
              rw [y] at this
              exact this old0
            rw [k0 e n2]
            exact a3 e he hev h0'
          · by_cases z : v = i
            · rw [z, k1i] at h0; omega
            · rw [k1 v z] at h0; rw [k2 v z]; exact e4 v hv h0
          · by_cases z : v = i
            · rw [z, k3i]; exact habt
            · rw [k3 v z]; exact e5 v hv
          · by_cases z : v = i
            · rw [z, k1i] at h1; omega
            · rw [k3 v z] at h0 ⊢
              rw [k1 v z] at h1
              rw [k4] at h4
              exact e6 v hv h0 h1 h4
          · by_cases z : e = ef
            · rw [z, k0e]; omega
            · rw [k0 e z]; exact e7 e he
          · rcases fin v hv with rfl | z
            · exact Or.inl (by rw [k1i]; omega)
            · have zi : v ≠ i := by omega
              unfold sd
              rw [k1 v zi, k3 v zi, k4, ks]
              exact e8 v z
          · have zi : v ≠ i := by omega
            rw [k1 v zi, k3 v zi, k4]; exact e9 v hv
          · rw [ks]
            by_cases z : v = i
            · rw [z, c1]; exact Nat.le_refl _
            · rw [k3 v z] at h0; exact e10 v hv h0
        · rw [if_neg due]
          have k0 : ∀ e, u2 s 3 i ab 0 e = s 0 e := fun e => u2_k (by omega)
          have k1 : ∀ v, u2 s 3 i ab 1 v = s 1 v := fun e => u2_k (by omega)
          have k2 : ∀ v, u2 s 3 i ab 2 v = s 2 v := fun e => u2_k (by omega)
          have k4 : ∀ v, u2 s 3 i ab 4 v = s 4 v := fun e => u2_k (by omega)
          have k3 : ∀ v, v ≠ i → u2 s 3 i ab 3 v = s 3 v := fun v hv => u2_j hv
          have ks : ∀ v, si (og m) (u2 s 3 i ab) t v = si (og m) s t v := fun v => by
            funext p
            unfold si
            rw [k0]
          refine ⟨fun e he h0 => ?_, fun v hv h0 => ?_, fun v hv h0 => ?_, fun v hv h0 => ?_, fun v hv => ?_, fun v hv h0 h1 h4 => ?_, fun e he => ?_, fun v hv => ?_, fun v hv => ?_, fun v hv h0 => ?_⟩
          · rw [k0] at h0; rw [k1, k2]; exact e1 e he h0
          · rw [k1] at h0
            have hvi : v ≠ i := by intro z; rw [z] at h0; exact h0 d1
            simp only [k0, k1, k2, k3 v hvi, k4]
            exact e2 v hv h0
          · rw [k4] at h0 ⊢
            simp only [k0, k1]
            exact e3 v hv h0
          · rw [k1] at h0; rw [k2]; exact e4 v hv h0
          · by_cases z : v = i
            · rw [z, u2_s]; exact habt
            · rw [k3 v z]; exact e5 v hv
          · rw [k1] at h1
            rw [k4] at h4
            by_cases z : v = i
            · rw [z, u2_s]; omega
            · rw [k3 v z] at h0 ⊢; exact e6 v hv h0 h1 h4
          · rw [k0]; exact e7 e he
          · rcases fin v hv with rfl | z
            · refine Or.inr (Or.inr (Or.inr ⟨by rw [ks]; exact c1, by rw [u2_s]; exact hab0, by rw [u2_s]; omega⟩))
            · have zi : v ≠ i := by omega
              unfold sd
              rw [k1, k3 v zi, k4, ks]
              exact e8 v z
          · rw [k1, k3 v (by omega), k4]; exact e9 v hv
          · rw [ks]
            by_cases z : v = i
            · rw [z, c1]; exact Nat.le_refl _
            · rw [k3 v z] at h0; exact e10 v hv h0
      · rw [if_neg c1]
        refine ⟨e1, e2, e3, e4, e5, e6, e7, fun v hv => ?_, e9, e10⟩
        rcases fin v hv with rfl | z
        · exact Or.inr (Or.inr (Or.inl (by omega)))
        · exact e8 v z

theorem EM_T {m wt : Nat → Nat} {t : Nat} {s : Es} (ok : OkG m) (E : EM (og m) m wt t 0 s) : ∀ n, n ≤ m 2 → EM (og m) m wt t n (eT (og m) m wt t n s) := by
  intro n
  induction n with
  | zero => intro _; exact E
  | succ n ih =>
    intro hn
    unfold eT
    exact EM_step ok (by omega) (ih (by omega))
theorem EM_next {m wt : Nat → Nat} {t : Nat} {s : Es} (ok : OkG m) (E : EM (og m) m wt t (m 2) s) : EM (og m) m wt (t + 1) 0 s := by
  have h2 := ok.2.1
  obtain ⟨e1, e2, e3, e4, e5, e6, e7, e8, e9, e10⟩ := E
  refine ⟨e1, fun v hv h0 => ⟨by have := (e2 v hv h0).1; omega, (e2 v hv h0).2⟩, fun v hv h0 => ⟨by have := (e3 v hv h0).1; omega, (e3 v hv h0).2⟩, e4, fun v hv => by have := e5 v hv; omega, fun v hv h0 h1 h4 => ?_, fun e he => by have := e7 e he; omega, fun v hv => absurd hv (by omega), e9, fun v hv h0 => ?_⟩
  · have hvm : v < m 2 := by
      apply Classical.byContradiction
      intro z
      exact h0 (e9 v (by omega)).2.1
    rcases e8 v hvm with z | z | z | ⟨z1, z2, z3⟩
    · exact absurd h1 z
    · exact absurd h4 z
    · have := e10 v hv h0; omega
    · omega
  · refine Nat.le_trans (ct_mono (p := si (og m) s (t + 1) v) (q := si (og m) s t v) (n := 4) (fun p hp z => ?_)) (e10 v hv h0)
    obtain ⟨z1, z2⟩ := si_t.mp z
    exact si_t.mpr ⟨z1, by omega⟩
theorem EM_r {m wt : Nat → Nat} (ok : OkG m) (t : Nat) : EM (og m) m wt t 0 (rM (og m) m wt (m 2) t) := by
  induction t with
  | zero => exact EM_0 _ _ _
  | succ t ih => exact EM_next ok (EM_T ok ih (m 2) (Nat.le_refl _))
theorem EM_e {m wt : Nat → Nat} (ok : OkG m) (t : Nat) : EM (og m) m wt t (m 2) (rM (og m) m wt (m 2) (t + 1)) := EM_T ok (EM_r ok t) (m 2) (Nat.le_refl _)
/-- between two events nothing changes -/
theorem rM_idle {m wt : Nat → Nat} (ok : OkG m) {t u : Nat} (h1 : ∀ e, e < 40 → rM (og m) m wt (m 2) (t + 1) 0 e = 0 ∨ rM (og m) m wt (m 2) (t + 1) 0 e ≤ t + 1 ∨ u + 1 < rM (og m) m wt (m 2) (t + 1) 0 e) (h2 : ∀ v, v < 10 → rM (og m) m wt (m 2) (t + 1) 3 v ≠ 0 → rM (og m) m wt (m 2) (t + 1) 3 v - 1 + wt v ≤ t ∨ u < rM (og m) m wt (m 2) (t + 1) 3 v - 1 + wt v) : ∀ d, t + 1 + d ≤ u + 1 → rM (og m) m wt (m 2) (t + 1 + d) = rM (og m) m wt (m 2) (t + 1) := by
  have hm := ok.2.1
  have E := EM_e (wt := wt) ok t
  intro d
  induction d with
  | zero => intro _; rfl
  | succ d ih =>
    intro hd
    show eT (og m) m wt (t + 1 + d) (m 2) (rM (og m) m wt (m 2) (t + 1 + d)) = _
    rw [ih (by omega)]
    refine eT_idle (fun v hv => ?_)
    refine es_idle (t := t) (E.2.2.2.2.2.2.2.1 v hv) (by omega) (fun p hp => ?_) (fun h0 => ?_)
    · have := h1 (4 * v + p) (by omega)
      omega
    · have := h2 v (by omega) h0
      omega
