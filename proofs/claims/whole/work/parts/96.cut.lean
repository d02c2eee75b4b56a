-- one cable less: the graph
theorem many_ends {o : Nat → Nat} (g : Gr o) {a : Nat} (ha : a < 10) (pe rk : Nat → Nat) (hpe : ∀ v, v < 10 → Cn o a v → v ≠ a → pe v < 40 ∧ pe v / 4 = v ∧ o (pe v) ≠ 0 ∧ rk ((o (pe v) - 1) / 4) < rk v) : 2 * ct (nb o a) 10 ≤ ct (eb o a) 40 + 2 := by
  have k1 : ct (fun v => nb o a v && !(v == a)) 10 ≤ ct (pf o a pe) 40 := by
    refine ct_inj pe (fun v hv hp => ?_) (fun i j hi hj hp hq hij => ?_)
    · simp only [Bool.and_eq_true, Bool.not_eq_true', beq_eq_false_iff_ne] at hp
      obtain ⟨b1, b2, b3, b4⟩ := hpe v hv (bo_t.mp hp.1) hp.2
      refine ⟨b1, bo_p ⟨b3, ?_, ?_, ?_⟩⟩
      · rw [b2]; exact bo_t.mp hp.1
      · rw [b2]; exact hp.2
      · rw [b2]
    · simp only [Bool.and_eq_true, Bool.not_eq_true', beq_eq_false_iff_ne] at hp hq
      obtain ⟨b1, b2, b3, b4⟩ := hpe i hi (bo_t.mp hp.1) hp.2
      obtain ⟨c1, c2, c3, c4⟩ := hpe j hj (bo_t.mp hq.1) hq.2
      rw [← b2, ← c2, hij]
  have k2 := ct_del (q := nb o a) ha (bo_p (Cn.refl o a))
  have k3 : ct (pf o a pe) 40 ≤ ct (pg o a pe) 40 := by
    refine ct_inj (fun e => o e - 1) (fun e he hp => ?_) (fun i j hi hj hp hq hij => ?_)
    · obtain ⟨b1, b2, b3, b4⟩ := bo_t.mp hp
      obtain ⟨g1, g2, g3⟩ := g e he b1
      refine ⟨by omega, bo_p ⟨by omega, Cn.step he b1 b2, ?_, ?_⟩⟩
      · rw [g2]; simpa using b3
      · rw [g2]; simpa using b4
    · obtain ⟨b1, b2, b3, b4⟩ := bo_t.mp hp
      obtain ⟨c1, c2, c3, c4⟩ := bo_t.mp hq
      obtain ⟨g1, g2, g3⟩ := g i hi b1
      obtain ⟨k1, k2, k3⟩ := g j hj c1
      have hij : o i - 1 = o j - 1 := hij
      rw [hij] at g2
      omega
  have k4 : ct (fun e => pf o a pe e || pg o a pe e) 40 = ct (pf o a pe) 40 + ct (pg o a pe) 40 := by
    refine ct_or_eq (fun i hi => by simp) (fun i hi hp => ?_)
    obtain ⟨b1, b2, b3, b4⟩ := bo_t.mp hp
    apply bo_f
    rintro ⟨c1, c2, c3, c4⟩
    obtain ⟨g1, g2, g3⟩ := g i hi b1
    have r1 := (hpe (i / 4) (by omega) b2 b3).2.2.2
    rw [← b4] at r1
    have r2 := (hpe ((o i - 1) / 4) (by omega) (Cn.step hi b1 b2) c3).2.2.2
    rw [← c4, g2] at r2
    simp at r2
    omega
  have k5 : ct (fun e => pf o a pe e || pg o a pe e) 40 ≤ ct (eb o a) 40 := ct_mono (fun i hi hp => by
    simp only [Bool.or_eq_true] at hp
    rcases hp with hp | hp
    · obtain ⟨b1, b2, b3, b4⟩ := bo_t.mp hp
      exact bo_p ⟨b1, b2⟩
    · obtain ⟨b1, b2, b3, b4⟩ := bo_t.mp hp
      exact bo_p ⟨b1, b2⟩)
  omega
theorem cu_v {o : Nat → Nat} (g : Gr o) {e : Nat} (he : e < 40) (h0 : o e ≠ 0) (i : Nat) (hi : i < 40) : cu o (e + 1) i = if i = e ∨ i = o e - 1 then 0 else o i := by
  obtain ⟨g1, g2, g3⟩ := g e he h0
  unfold cu
  have key : (i + 1 = e + 1 ∨ o i = e + 1) ↔ (i = e ∨ i = o e - 1) := by
    constructor
    · rintro (q | q)
      · exact Or.inl (by omega)
      · have := g i hi (by omega)
        rw [q, show e + 1 - 1 = e from rfl] at this
        exact Or.inr (by omega)
    · rintro (q | q)
      · exact Or.inl (by omega)
      · right
        rw [q, g2]
  by_cases z : i = e ∨ i = o e - 1
  · rw [if_pos z, if_pos (key.mpr z)]
  · rw [if_neg z, if_neg (fun q => z (key.mp q))]
theorem cu_aj {o : Nat → Nat} {lx a b : Nat} (h : aj (cu o lx) a b) : aj o a b := by
  obtain ⟨e, h1, h2, h3, h4⟩ := h
  have : cu o lx e = o e := by
    unfold cu at h3 ⊢
    by_cases z : e + 1 = lx ∨ o e = lx
    · rw [if_pos z] at h3; exact absurd rfl h3
    · rw [if_neg z]
  rw [this] at h3 h4
  exact ⟨e, h1, h2, h3, h4⟩
theorem cu_cn {o : Nat → Nat} {lx a b : Nat} (h : Cn (cu o lx) a b) : Cn o a b := fun S hS ha => h S (fun x y q => hS x y (cu_aj q)) ha
theorem cu_step {o : Nat → Nat} (g : Gr o) {e : Nat} (he : e < 40) (h0 : o e ≠ 0) {i : Nat} (hi : i < 40) (h1 : o i ≠ 0) (n1 : i ≠ e) (n2 : i ≠ o e - 1) : aj (cu o (e + 1)) (i / 4) ((o i - 1) / 4) := by
  have := cu_v g he h0 i hi
  rw [if_neg (by omega)] at this
  exact ⟨i, hi, rfl, by rw [this]; exact h1, by rw [this]⟩
/-- no bridge: nothing falls apart -/
theorem cu_same {o : Nat → Nat} {e : Nat} (g : Gr o) (g' : Gr (cu o (e + 1))) (he : e < 40) (h0 : o e ≠ 0) (nb : Cn (cu o (e + 1)) (e / 4) ((o e - 1) / 4)) {a b : Nat} (h : Cn o a b) : Cn (cu o (e + 1)) a b := by
  refine h (fun x => Cn (cu o (e + 1)) a x) (fun x y ⟨i, h1, h2, h3, h4⟩ hx => ?_) (Cn.refl _ _)
  obtain ⟨q1, q2, q3⟩ := g e he h0
  subst h2
  subst h4
  by_cases z1 : i = e
  · rw [z1] at hx ⊢; exact hx.trans nb
  · by_cases z2 : i = o e - 1
    · rw [z2] at hx ⊢
      rw [q2]
      exact hx.trans (nb.symm g')
    · exact hx.trans (Cn.one (cu_step g he h0 h1 h3 z1 z2))
/-- elsewhere: nothing changes -/
theorem cu_else {o : Nat → Nat} (g : Gr o) {e : Nat} (he : e < 40) (h0 : o e ≠ 0) {a b : Nat} (na : ¬ Cn o a (e / 4)) (h : Cn o a b) : Cn (cu o (e + 1)) a b := by
  refine h (fun x => Cn (cu o (e + 1)) a x) (fun x y ⟨i, h1, h2, h3, h4⟩ hx => ?_) (Cn.refl _ _)
  obtain ⟨q1, q2, q3⟩ := g e he h0
  subst h2
  subst h4
  by_cases z1 : i = e
  · rw [z1] at hx; exact absurd (cu_cn hx) na
  · by_cases z2 : i = o e - 1
    · rw [z2] at hx
      have := Cn.step (o := o) (a := a) (e := o e - 1) (by omega) (by rw [q2]; omega) (cu_cn hx)
      rw [q2] at this
      exact absurd this na
    · exact hx.trans (Cn.one (cu_step g he h0 h1 h3 z1 z2))
/-- the bus of a after the cut -/
theorem cu_sz {o : Nat → Nat} (g : Gr o) {e : Nat} (he : e < 40) (h0 : o e ≠ 0) {a : Nat} : (Cn (cu o (e + 1)) (e / 4) ((o e - 1) / 4) ∨ ¬ Cn o a (e / 4)) → ∀ b, Cn (cu o (e + 1)) a b ↔ Cn o a b := fun h b => ⟨cu_cn, fun q => by
  rcases h with h | h
  · exact cu_same g (cu_gr g (e + 1)) he h0 h q
  · exact cu_else g he h0 h q⟩
theorem cu_szeq {o : Nat → Nat} (g : Gr o) {e : Nat} (he : e < 40) (h0 : o e ≠ 0) {a : Nat} (h : Cn (cu o (e + 1)) (e / 4) ((o e - 1) / 4) ∨ ¬ Cn o a (e / 4)) : sz (cu o (e + 1)) a = sz o a := ct_congr (fun i _ => by
  unfold nb
  congr 1
  exact propext (cu_sz g he h0 h i))
theorem cu_szlt {o : Nat → Nat} (g : Gr o) {e : Nat} (he : e < 40) (h0 : o e ≠ 0) {a : Nat} (br : ¬ Cn (cu o (e + 1)) (e / 4) ((o e - 1) / 4)) (ha : Cn o a (e / 4)) : sz (cu o (e + 1)) a < sz o a := by
  obtain ⟨q1, q2, q3⟩ := g e he h0
  have g' := cu_gr g (e + 1)
  by_cases z : Cn (cu o (e + 1)) a (e / 4)
  · have z2 : ¬ Cn (cu o (e + 1)) a ((o e - 1) / 4) := fun y => br ((z.symm g').trans y)
    exact ct_lt (fun i _ q => bo_p (cu_cn (bo_t.mp q))) (j := (o e - 1) / 4) (by omega) (bo_f z2) (bo_p (Cn.step he h0 ha))
  · exact ct_lt (fun i _ q => bo_p (cu_cn (bo_t.mp q))) (j := e / 4) (by omega) (bo_f z) (bo_p ha)
theorem cu_cbeq {o : Nat → Nat} (g : Gr o) {e : Nat} (he : e < 40) (h0 : o e ≠ 0) {a : Nat} (na : ¬ Cn o a (e / 4)) : cb (cu o (e + 1)) a = cb o a := by
  obtain ⟨q1, q2, q3⟩ := g e he h0
  unfold cb
  rw [ct_congr (p := eb (cu o (e + 1)) a) (q := eb o a) (fun i hi => by
    unfold eb
    congr 1
    apply propext
    have v := cu_v g he h0 i hi
    have s := cu_sz g he h0 (Or.inr na) (i / 4)
    by_cases z : i = e ∨ i = o e - 1
    · rw [if_pos z] at v
      constructor
      · intro q; exact absurd v q.1
      · intro q
        exfalso
        rcases z with z | z
        · rw [z] at q; exact na q.2
        · rw [z] at q
          have := Cn.step (o := o) (a := a) (e := o e - 1) (by omega) (by rw [q2]; omega) q.2
          rw [q2] at this
          exact na this
    · rw [if_neg z] at v
      rw [v, s])]
theorem cu_eb {o : Nat → Nat} (g : Gr o) {e : Nat} (he : e < 40) (h0 : o e ≠ 0) {a : Nat} (nbr : Cn (cu o (e + 1)) (e / 4) ((o e - 1) / 4)) (ha : Cn o a (e / 4)) : ct (eb (cu o (e + 1)) a) 40 + 2 = ct (eb o a) 40 := by
  obtain ⟨q1, q2, q3⟩ := g e he h0
  have d1 := ct_del (q := eb o a) (j := e) (n := 40) he (bo_p ⟨h0, ha⟩)
  have d2 := ct_del (q := fun i => eb o a i && !(i == e)) (j := o e - 1) (n := 40) (by omega) (by
    have ne : (o e - 1 == e) = false := by
      have : o e - 1 ≠ e := fun z => q3 (by rw [z])
      simp [this]
    have t : eb o a (o e - 1) = true := bo_p ⟨by rw [q2]; omega, Cn.step he h0 ha⟩
    rw [t, ne]
    rfl)
  have e1 : ct (eb (cu o (e + 1)) a) 40 = ct (fun i => (eb o a i && !(i == e)) && !(i == o e - 1)) 40 := ct_congr (fun i hi => by
    have v := cu_v g he h0 i hi
    have s := cu_sz g he h0 (Or.inl nbr) (a := a) (i / 4)
    by_cases z : i = e ∨ i = o e - 1
    · rw [if_pos z] at v
      have l : eb (cu o (e + 1)) a i = false := bo_f (fun q => q.1 v)
      rw [l]
      rcases z with z | z
      · simp [z]
      · simp [z]
    · rw [if_neg z] at v
      have n1 : (i == e) = false := by simp; omega
      have n2 : (i == o e - 1) = false := by simp; omega
      rw [n1, n2]
      simp only [Bool.not_false, Bool.and_true]
      unfold eb
      congr 1
      apply propext
      rw [v, s])
  omega
theorem cu_cb1 {o : Nat → Nat} (g : Gr o) {e : Nat} (he : e < 40) (h0 : o e ≠ 0) {a : Nat} (nbr : Cn (cu o (e + 1)) (e / 4) ((o e - 1) / 4)) (ha : Cn o a (e / 4)) : cb (cu o (e + 1)) a + 1 = cb o a := by
  have := cu_eb g he h0 nbr ha
  unfold cb
  omega
/-- in a tree every cable is a bridge -/
theorem tree_bridge {m : Nat → Nat} (ok : OkG m) {e : Nat} (he : e < 40) (h0 : og m e ≠ 0) {a : Nat} (ha2 : a < m 2) (ha : Cn (og m) a (e / 4)) (tr : ¬ sz (og m) a ≤ cb (og m) a) : ¬ Cn (cu (og m) (e + 1)) (e / 4) ((og m e - 1) / 4) := by
  intro nbr
  have g := ok.2.2.2.1
  have g' := cu_gr g (e + 1)
  obtain ⟨hp, dy, bf⟩ := bf_ex (lx := e + 1) ok ha2 (by omega)
  obtain ⟨pe, hpe⟩ := Bf.pe g' bf
  have h2 := ok.2.1
  have me := many_ends g' (a := a) (by omega) pe hp (fun v hv hc hn => by
    obtain ⟨b1, b2, b3, b4, b5, b6⟩ := hpe v hv hc hn
    exact ⟨b1, b2, b3, by omega⟩)
  have few := few_of g tr
  have s := cu_szeq g he h0 (a := a) (Or.inl nbr)
  have c := cu_eb g he h0 nbr ha
  unfold sz at s
  omega
/-- as many buses, or more -/
theorem cu_buses {o : Nat → Nat} (g : Gr o) {e n : Nat} (he : e < 40) (h0 : o e ≠ 0) (hn : n ≤ 10) (hen : e / 4 < n) (hfn : (o e - 1) / 4 < n) (hin : ∀ a b, Cn o a b → a < n → b < n) : (ct (fun u => bo (lst (cu o (e + 1)) u = u)) n ≤ ct (fun u => bo (lst o u = u)) n) ↔ Cn (cu o (e + 1)) (e / 4) ((o e - 1) / 4) := by
  have g' := cu_gr g (e + 1)
  obtain ⟨q1, q2, q3⟩ := g e he h0
  have low : ∀ u, u < 10 → lst o u = u → lst (cu o (e + 1)) u = u := fun u hu h => by
    have a := lst_cn (o := cu o (e + 1)) hu
    have b : lst (cu o (e + 1)) u ≤ u := lst_le hu (Cn.refl _ _)
    have c : lst o u ≤ lst (cu o (e + 1)) u := lst_le a.2 (cu_cn a.1)
    omega
  constructor
  · intro h
    apply Classical.byContradiction
    intro br
    obtain ⟨a, ha⟩ : ∃ a, a = lst o (e / 4) := ⟨_, rfl⟩
    have ac := (lst_cn (o := o) (v := e / 4) (by omega)).1
    rw [← ha] at ac
    have strict : ∀ x, x < n → Cn o (e / 4) x → ¬ Cn (cu o (e + 1)) x a → False := fun x hx hc hna => by
      have bx := lst_cn (o := cu o (e + 1)) (v := x) (by omega)
      have b2 : lst (cu o (e + 1)) (lst (cu o (e + 1)) x) = lst (cu o (e + 1)) x := (lst_iff g' (by omega) (by omega)).mpr (bx.1.symm g')
      have b3 : lst o (lst (cu o (e + 1)) x) = a := by
        rw [ha]
        exact (lst_iff g (by omega) (by omega)).mpr (((cu_cn bx.1).symm g).trans (hc.symm g))
      have b4 : lst (cu o (e + 1)) x ≠ a := fun z => hna (by rw [← z]; exact bx.1)
      have bn : lst (cu o (e + 1)) x < n := hin x _ (cu_cn bx.1) hx
      have := ct_lt (p := fun u => bo (lst o u = u)) (q := fun u => bo (lst (cu o (e + 1)) u = u)) (n := n) (fun i hi q => bo_p (low i (by omega) (bo_t.mp q))) (j := lst (cu o (e + 1)) x) bn (bo_f (fun z => b4 (by rw [← z]; exact b3))) (bo_p b2)
      omega
    by_cases z : Cn (cu o (e + 1)) (e / 4) a
    · exact strict ((o e - 1) / 4) hfn (Cn.step he h0 (Cn.refl _ _)) (fun y => br (z.trans (y.symm g')))
    · exact strict (e / 4) hen (Cn.refl _ _) z
  · intro nbr
    refine ct_mono (fun i hi q => bo_p ?_)
    have z := bo_t.mp q
    have a := lst_cn (o := o) (v := i) (by omega)
    have b : lst (cu o (e + 1)) i ≤ lst o i := lst_le a.2 (cu_same g g' he h0 nbr a.1)
    have c : lst o i ≤ i := lst_le (by omega) (Cn.refl _ _)
    omega
