-- tokens: they are there, and they go on
theorem RE_ex (T : Nat) (q : Nat → Prop) : ∀ n p, T - p = n → ∃ e, RE T q p e := by
  intro n
  induction n with
  | zero => exact fun p hp => ⟨p, RE.stop (fun z => by omega)⟩
  | succ n ih =>
    intro p hp
    by_cases z : p < T ∧ q p
    · obtain ⟨e, he⟩ := ih (p + 1) (by omega)
      exact ⟨e, (RE.step z.1 z.2).mpr he⟩
    · exact ⟨p, RE.stop z⟩
theorem TK_ex (t : Nat → Nat) (T p : Nat) : ∃ s e k, TK t T p s e k := by
  obtain ⟨s, hs⟩ := RE_ex T (blk t) _ p rfl
  by_cases z : T ≤ s
  · exact ⟨s, s, 0, hs, Or.inl ⟨z, rfl, rfl⟩⟩
  · by_cases y : kd (t s) = 1 ∨ kd (t s) = 2
    · obtain ⟨e, he⟩ := RE_ex T (fun j => kd (t j) = kd (t s)) _ s rfl
      exact ⟨s, e, kd (t s), hs, Or.inr ⟨by omega, rfl, fun _ => he, fun w => absurd y w⟩⟩
    · exact ⟨s, s + 1, kd (t s), hs, Or.inr ⟨by omega, rfl, fun w => absurd w y, fun _ => rfl⟩⟩
def isT (t : Nat → Nat) (T : Nat) (x : Tok) : Prop := ∃ p, p ≤ T ∧ TK t T p x.1 x.2.1 x.2.2
theorem tn_isT (t : Nat → Nat) (T : Nat) {p : Nat} (hp : p ≤ T) : isT t T (tn t T p) ∧ p ≤ (tn t T p).1 := by
  obtain ⟨s, e, k, h⟩ := TK_ex t T p
  rw [tn_eq h]
  exact ⟨⟨p, hp, h⟩, (h.le hp).1⟩
theorem isT.ok {t : Nat → Nat} {T : Nat} {x : Tok} (h : isT t T x) : okT t T x ∧ x.1 ≤ x.2.1 ∧ x.2.1 ≤ T ∧ (x.2.2 ≠ 0 → x.1 < x.2.1) := by
  obtain ⟨p, hp, k⟩ := h
  obtain ⟨a1, a2, a3, a4, a5⟩ := k.le hp
  exact ⟨k.okT hp, a2, a3, a5⟩
theorem isT.end {t : Nat → Nat} {T : Nat} {x : Tok} (h : isT t T x) (hx : x.1 < T) : x.2.2 ≠ 0 := by
  obtain ⟨p, hp, k⟩ := h
  rcases k.2 with ⟨a, b, c⟩ | ⟨a, b, c, d⟩
  · omega
  · have := kd_le (t x.1)
    omega
/-- what comes out goes on from x -/
def Mo (t : Nat → Nat) (T : Nat) (x : Tok) (r : Rs Tok) : Prop := ∀ y, r = .inr y → isT t T y ∧ x.1 ≤ y.1
theorem Mo.bnd {t : Nat → Nat} {T : Nat} {x : Tok} {r : Rs Tok} {f : Tok → Rs Tok} (a : Mo t T x r) (b : ∀ y, isT t T y → Mo t T y (f y)) : Mo t T x (bnd r f) := fun y hy => by
  obtain ⟨z, e1, e2⟩ := bnd_inr hy
  obtain ⟨q1, q2⟩ := a z e1
  obtain ⟨q3, q4⟩ := b z q1 y e2
  exact ⟨q3, by omega⟩
theorem Mo.tn {t : Nat → Nat} {T : Nat} {x : Tok} (h : isT t T x) : Mo t T x (.inr (tn t T x.2.1)) := fun y hy => by
  cases hy
  obtain ⟨a, b, c, d⟩ := h.ok
  obtain ⟨e, f⟩ := tn_isT t T c
  exact ⟨e, by omega⟩
theorem Mo.inl {t : Nat → Nat} {T : Nat} {x : Tok} {f : Nat × Nat} : Mo t T x (.inl f) := fun y hy => by cases hy
theorem Mo.self {t : Nat → Nat} {T : Nat} {x : Tok} (h : isT t T x) : Mo t T x (.inr x) := fun y hy => by
  cases hy
  exact ⟨h, Nat.le_refl _⟩
theorem Mo.ite {t : Nat → Nat} {T : Nat} {x : Tok} {r s : Rs Tok} {p : Prop} [Decidable p] (a : Mo t T x r) (b : Mo t T x s) : Mo t T x (if p then r else s) := by
  by_cases z : p
  · rw [if_pos z]; exact a
  · rw [if_neg z]; exact b
theorem pW_mo {t : Nat → Nat} {T w : Nat} {x : Tok} (h : isT t T x) : Mo t T x (pW t T w x) := Mo.ite (Mo.tn h) Mo.inl
theorem pN_mo {t : Nat → Nat} {T lo hi : Nat} {x : Tok} (h : isT t T x) : Mo t T x (pN t T lo hi x) := Mo.ite (Mo.ite (Mo.tn h) Mo.inl) Mo.inl
theorem pM_mo {t : Nat → Nat} {T n : Nat} {na : Nat → Nat × Nat} {x : Tok} (h : isT t T x) : Mo t T x (pM t T n na x) := by
  unfold pM
  by_cases z : x.2.2 = 1
  · rw [if_pos z]
    by_cases y : 6 < x.2.1 - x.1 ∨ isK t x = true ∨ fi (nq t x na) n ≠ 0
    · rw [if_pos y]; exact Mo.inl
    · rw [if_neg y]; exact Mo.tn h
  · rw [if_neg z]; exact Mo.inl
theorem pR_mo {t : Nat → Nat} {T : Nat} {x : Tok} (h : isT t T x) : Mo t T x (pR t T x) := Mo.ite (Mo.ite (Mo.tn h) Mo.inl) Mo.inl
theorem tn_mo {t : Nat → Nat} {T : Nat} {x : Tok} {r : Rs Tok} (h : isT t T x) (k : Mo t T (tn t T x.2.1) r) : Mo t T x r := fun y hy => by
  obtain ⟨a, b, c, d⟩ := h.ok
  obtain ⟨e, f⟩ := tn_isT t T c
  obtain ⟨q3, q4⟩ := k y hy
  exact ⟨q3, by omega⟩
theorem tn_is {t : Nat → Nat} {T : Nat} {x : Tok} (h : isT t T x) : isT t T (tn t T x.2.1) ∧ x.1 ≤ (tn t T x.2.1).1 := Mo.tn h _ rfl
theorem pQ_mo {t : Nat → Nat} {T : Nat} {x : Tok} (h : isT t T x) : Mo t T x (pQ t T x) := by
  rw [pQ_R]
  exact Mo.ite (tn_mo h (pR_mo (tn_is h).1)) (Mo.self h)
theorem pS_up {t : Nat → Nat} {T : Nat} {x y : Tok} (h : isT t T x) (e : pS t T x = .inr y) : isT t T y ∧ x.1 < y.1 := by
  unfold pS at e
  by_cases z : x.2.2 = 3
  · rw [if_pos z] at e
    cases e
    obtain ⟨a, b, c, d⟩ := h.ok
    obtain ⟨e, f⟩ := tn_isT t T c
    have := d (by omega)
    exact ⟨e, by omega⟩
  · rw [if_neg z] at e; cases e
theorem pM_okA {t : Nat → Nat} {T n : Nat} {na : Nat → Nat × Nat} {x y : Tok} (h : isT t T x) (oa : okA T n na) (hn : n < 10) (e : pM t T n na x = .inr y) : okA T (n + 1) (aN n na x) := by
  obtain ⟨a, b, c, d⟩ := h.ok
  unfold pM at e
  by_cases z : x.2.2 = 1
  · rw [if_pos z] at e
    by_cases w : 6 < x.2.1 - x.1 ∨ isK t x = true ∨ fi (nq t x na) n ≠ 0
    · rw [if_pos w] at e; cases e
    · have l6 : ¬ 6 < x.2.1 - x.1 := fun q => w (Or.inl q)
      refine ⟨by omega, fun v hv => ?_⟩
      unfold aN
      by_cases vn : v = n
      · rw [if_pos vn]
        exact ⟨by dsimp only; omega, by dsimp only; omega⟩
      · rw [if_neg vn]; exact oa.2 v (by omega)
  · rw [if_neg z] at e; cases e
