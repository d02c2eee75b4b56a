-- a bus without a loop is a tree
theorem eb_even {o : Nat → Nat} (g : Gr o) (a : Nat) : ct (eb o a) 40 = 2 * ct (fun e => bo (o e ≠ 0 ∧ Cn o a (e / 4) ∧ e + 1 < o e)) 40 := by
  have h1 : ct (eb o a) 40 = ct (fun e => bo (o e ≠ 0 ∧ Cn o a (e / 4) ∧ e + 1 < o e)) 40 + ct (fun e => bo (o e ≠ 0 ∧ Cn o a (e / 4) ∧ o e < e + 1)) 40 := by
    refine ct_or_eq (fun e he => ?_) (fun e he hp => ?_)
    · unfold eb
      rw [bo_t, bo_t, bo_t]
      constructor
      · rintro ⟨z1, z2⟩
        obtain ⟨g1, g2, g3⟩ := g e he z1
        rcases Nat.lt_or_ge (e + 1) (o e) with y | y
        · exact Or.inl ⟨z1, z2, y⟩
        · refine Or.inr ⟨z1, z2, ?_⟩
          have : o e ≠ e + 1 := by
            intro q
            rw [q] at g3
            simp at g3
          omega
      · rintro (⟨z1, z2, -⟩ | ⟨z1, z2, -⟩) <;> exact ⟨z1, z2⟩
    · obtain ⟨z1, z2, z3⟩ := bo_t.mp hp
      exact bo_f (fun y => by omega)
  have h2 : ct (fun e => bo (o e ≠ 0 ∧ Cn o a (e / 4) ∧ e + 1 < o e)) 40 = ct (fun e => bo (o e ≠ 0 ∧ Cn o a (e / 4) ∧ o e < e + 1)) 40 := by
    apply Nat.le_antisymm
    · refine ct_inj (fun e => o e - 1) (fun e he hp => ?_) (fun i j hi hj hp hq hij => ?_)
      · obtain ⟨b1, b2, b3⟩ := bo_t.mp hp
        obtain ⟨g1, g2, g3⟩ := g e he b1
        exact ⟨by omega, bo_p ⟨by omega, Cn.step he b1 b2, by omega⟩⟩
      · obtain ⟨b1, b2, b3⟩ := bo_t.mp hp
        obtain ⟨c1, c2, c3⟩ := bo_t.mp hq
        obtain ⟨g1, g2, g3⟩ := g i hi b1
        obtain ⟨k1, k2, k3⟩ := g j hj c1
        have hij : o i - 1 = o j - 1 := hij
        rw [hij] at g2
        omega
    · refine ct_inj (fun e => o e - 1) (fun e he hp => ?_) (fun i j hi hj hp hq hij => ?_)
      · obtain ⟨b1, b2, b3⟩ := bo_t.mp hp
        obtain ⟨g1, g2, g3⟩ := g e he b1
        exact ⟨by omega, bo_p ⟨by omega, Cn.step he b1 b2, by omega⟩⟩
      · obtain ⟨b1, b2, b3⟩ := bo_t.mp hp
        obtain ⟨c1, c2, c3⟩ := bo_t.mp hq
        obtain ⟨g1, g2, g3⟩ := g i hi b1
        obtain ⟨k1, k2, k3⟩ := g j hj c1
        have hij : o i - 1 = o j - 1 := hij
        rw [hij] at g2
        omega
  omega
theorem few_of {o : Nat → Nat} (g : Gr o) {a : Nat} (h : ¬ sz o a ≤ cb o a) : ct (eb o a) 40 + 2 ≤ 2 * ct (nb o a) 10 := by
  have h1 := eb_even g a
  unfold sz cb at h
  omega
/-- the parent ends of a walk's labels -/
def Pe (m o : Nat → Nat) (a : Nat) (hp dy pe : Nat → Nat) : Prop := ∀ v, v < 10 → Cn o a v → v ≠ a → pe v < 40 ∧ pe v / 4 = v ∧ o (pe v) ≠ 0 ∧ hp ((o (pe v) - 1) / 4) ≠ 0 ∧ hp v = hp ((o (pe v) - 1) / 4) + 1 ∧ dy v = dy ((o (pe v) - 1) / 4) + (if hp ((o (pe v) - 1) / 4) = 1 then 0 else m 1) + m (85 + (o (pe v) - 1))
theorem Bf.pe {m o : Nat → Nat} {a : Nat} {hp dy : Nat → Nat} (g : Gr o) (bf : Bf m o a hp dy) : ∃ pe, Pe m o a hp dy pe := by
  have key : ∀ v, ∃ p, v < 10 → Cn o a v → v ≠ a → p < 40 ∧ p / 4 = v ∧ o p ≠ 0 ∧ hp ((o p - 1) / 4) ≠ 0 ∧ hp v = hp ((o p - 1) / 4) + 1 ∧ dy v = dy ((o p - 1) / 4) + (if hp ((o p - 1) / 4) = 1 then 0 else m 1) + m (85 + (o p - 1)) := by
    intro v
    by_cases c : v < 10 ∧ Cn o a v ∧ v ≠ a
    · obtain ⟨e, e1, e2, e3, e4, e5, e6⟩ := bf.2.2.2.2 v c.1 ((bf.2.2.1 v c.1).mpr c.2.1) c.2.2
      obtain ⟨g1, g2, g3⟩ := g e e1 e2
      refine ⟨o e - 1, fun _ _ _ => ?_⟩
      rw [g2, show e + 1 - 1 = e from rfl]
      exact ⟨by omega, e3, by omega, e4, e5, e6⟩
    · exact ⟨0, fun z1 z2 z3 => absurd ⟨z1, z2, z3⟩ c⟩
  obtain ⟨pe, hpe⟩ := Classical.axiomOfChoice key
  exact ⟨pe, hpe⟩
/-- every end of a tree leads to a parent or to a child -/
theorem tree_ends {m o : Nat → Nat} {a : Nat} {hp dy pe : Nat → Nat} (g : Gr o) (ha : a < 10) (hpe : Pe m o a hp dy pe) (tr : ¬ sz o a ≤ cb o a) : ∀ e, e < 40 → o e ≠ 0 → Cn o a (e / 4) → (e / 4 ≠ a ∧ e = pe (e / 4)) ∨ ((o e - 1) / 4 ≠ a ∧ o e - 1 = pe ((o e - 1) / 4)) :=
  all_ends g ha pe hp (fun v hv hc hva => by
    obtain ⟨p1, p2, p3, p4, p5, p6⟩ := hpe v hv hc hva
    exact ⟨p1, p2, p3, by omega⟩) (few_of g tr)
/-- w is v or below v -/
def Dn (o : Nat → Nat) (a : Nat) (pe : Nat → Nat) (v w : Nat) : Prop := ∀ S : Nat → Prop, S v → (∀ u x, S u → x < 10 → x ≠ a → Cn o a x → (o (pe x) - 1) / 4 = u → S x) → S w
theorem Dn.refl (o : Nat → Nat) (a : Nat) (pe : Nat → Nat) (v : Nat) : Dn o a pe v v := fun S h _ => h
theorem Dn.step {o : Nat → Nat} {a : Nat} {pe : Nat → Nat} {v u x : Nat} (h : Dn o a pe v u) (h1 : x < 10) (h2 : x ≠ a) (h3 : Cn o a x) (h4 : (o (pe x) - 1) / 4 = u) : Dn o a pe v x := fun S hv hS => hS u x (h S hv hS) h1 h2 h3 h4
theorem Dn.cases {o : Nat → Nat} {a : Nat} {pe : Nat → Nat} {v w : Nat} (h : Dn o a pe v w) : w = v ∨ ∃ c, c < 10 ∧ c ≠ a ∧ Cn o a c ∧ (o (pe c) - 1) / 4 = v ∧ Dn o a pe c w :=
  h (fun x => x = v ∨ ∃ c, c < 10 ∧ c ≠ a ∧ Cn o a c ∧ (o (pe c) - 1) / 4 = v ∧ Dn o a pe c x) (Or.inl rfl) (fun u x hu h1 h2 h3 h4 => by
    rcases hu with rfl | ⟨c, c1, c2, c3, c4, c5⟩
    · exact Or.inr ⟨x, h1, h2, h3, h4, Dn.refl _ _ _ _⟩
    · exact Or.inr ⟨c, c1, c2, c3, c4, c5.step h1 h2 h3 h4⟩)
theorem Dn_all {m o : Nat → Nat} {a : Nat} {hp dy pe : Nat → Nat} (g : Gr o) (hpe : Pe m o a hp dy pe) : ∀ n v, hp v ≤ n → v < 10 → Cn o a v → Dn o a pe a v := by
  intro n
  induction n with
  | zero =>
    intro v h1 h2 h3
    by_cases z : v = a
    · rw [z]; exact Dn.refl _ _ _ _
    · obtain ⟨p1, p2, p3, p4, p5, p6⟩ := hpe v h2 h3 z
      omega
  | succ n ih =>
    intro v h1 h2 h3
    by_cases z : v = a
    · rw [z]; exact Dn.refl _ _ _ _
    · obtain ⟨p1, p2, p3, p4, p5, p6⟩ := hpe v h2 h3 z
      obtain ⟨g1, g2, g3⟩ := g (pe v) p1 p3
      have hc : Cn o a ((o (pe v) - 1) / 4) := Cn.step p1 p3 (by rw [p2]; exact h3)
      exact (ih _ (by omega) (by omega) hc).step h2 z h3 rfl
/-- labels can be had for every net -/
theorem bf_ex {m : Nat → Nat} (ok : OkG m) {a lx : Nat} (ha : a < m 2) (hlx : lx ≤ 40) : ∃ hp dy, Bf m (cu (og m) lx) a hp dy := by
  obtain ⟨h0, e0⟩ : ∃ h : Hp, h = fun c j => if c = 7 then (if j = 2 then nI (m 1) else nI (m 2)) else if c = 8 then nI (m (5 + j)) else if c = 12 then fr (og m j) else nI (m (85 + j)) := ⟨_, rfl⟩
  have cn : CNw h0 7 m := by rw [e0]; exact ⟨rfl, rfl, fun _ _ => rfl, fun _ _ => rfl, fun _ _ _ => rfl⟩
  obtain ⟨h1, -, -, s, q, hp, dy, -, bf⟩ := x_start (F := 1000) (Or.inl rfl) ok cn hlx ha (Nat.le_refl _)
  exact ⟨hp, dy, bf⟩
