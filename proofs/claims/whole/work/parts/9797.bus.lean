-- the bus line, in both
theorem CR.eqv {h h' : Hp} {T : Nat} {t : Nat → Nat} {r : Rs Tok} (c : CR h T t r) (f1 : h' 1 = h 1) (f2 : h' 2 = h 2) (f3 : h' 3 = h 3) : CR h' T t r := by
  cases r with
  | inl f =>
    obtain ⟨a, b, d, e, g⟩ := c
    exact ⟨a.eqv f2 f3, by rw [f1]; exact b, d, e, by rw [f1]; exact g⟩
  | inr x =>
    obtain ⟨⟨a, ⟨b1, b2, b3⟩, d, e⟩, g⟩ := c
    exact ⟨⟨a.eqv f2 f3, ⟨by rw [f1]; exact b1, by rw [f1]; exact b2, by rw [f1]; exact b3⟩, by rw [f1]; exact d, e⟩, by rw [f1]; exact g⟩
theorem MR.eqv {h h' : Hp} {T : Nat} {t : Nat → Nat} {r : Rs Tok} (c : MR h T t r) (f1 : h' 68 = h 68) (f2 : h' 72 = h 72) : MR h' T t r := by
  have tme : TM h T t → TM h' T t := fun q => by unfold TM; rw [f1, f2]; exact q
  cases r with
  | inl f =>
    obtain ⟨a, b, d, e⟩ := c
    exact ⟨tme a, by rw [f1]; exact b, by rw [f1]; exact d, by rw [f1]; exact e⟩
  | inr x =>
    obtain ⟨⟨a, ⟨b1, b2, b3, b4⟩, d, e⟩, g1, g2⟩ := c
    exact ⟨⟨tme a, ⟨by rw [f1]; exact b1, by rw [f1]; exact b2, by rw [f1]; exact b3, by rw [f1]; exact b4⟩, by rw [f1]; exact d, e⟩, by rw [f1]; exact g1, by rw [f1]; exact g2⟩
/-- the number that stands there -/
def vN (t : Nat → Nat) (r : Rs Tok) : Nat := match r with
  | .inl _ => 0
  | .inr x => vR t x.1 (x.2.1 - x.1)
theorem bnd_inr {α β : Type} {r : Rs α} {f : α → Rs β} {y : β} (h : bnd r f = .inr y) : ∃ x, r = .inr x ∧ f x = .inr y := by
  cases r with
  | inl f => cases h
  | inr x => exact ⟨x, rfl, h⟩
theorem pN_v {t : Nat → Nat} {T lo hi : Nat} {x y : Tok} (h : pN t T lo hi x = .inr y) : lo ≤ vR t x.1 (x.2.1 - x.1) ∧ vR t x.1 (x.2.1 - x.1) ≤ hi := by
  unfold pN at h
  by_cases z : x.2.2 = 2
  · rw [if_pos z] at h
    by_cases q : lo ≤ vR t x.1 (x.2.1 - x.1) ∧ vR t x.1 (x.2.1 - x.1) ≤ hi
    · exact q
    · rw [if_neg q] at h; cases h
  · rw [if_neg z] at h; cases h
noncomputable def b1 (t : Nat → Nat) (T : Nat) (r : Rs Tok) : Rs Tok := bnd (bnd r (pW t T 0)) (pW t T 1)
noncomputable def b2 (t : Nat → Nat) (T : Nat) (r : Rs Tok) : Rs Tok := bnd (bnd (b1 t T r) (pN t T 0 20)) (pW t T 2)
noncomputable def b3 (t : Nat → Nat) (T : Nat) (r : Rs Tok) : Rs Tok := bnd (b2 t T r) (pN t T 0 9)
theorem b3_v {t : Nat → Nat} {T : Nat} {r : Rs Tok} {y : Tok} (h : b3 t T r = .inr y) : vN t (b1 t T r) ≤ 20 ∧ vN t (b2 t T r) ≤ 9 := by
  obtain ⟨x2, e2, p2⟩ := bnd_inr h
  obtain ⟨x1', e1', p1'⟩ := bnd_inr e2
  obtain ⟨x1, e1, p1⟩ := bnd_inr e1'
  rw [e1, e2]
  exact ⟨(pN_v p1).2, (pN_v p2).2⟩
theorem y_readBus {T kn F : Nat} {t : Nat → Nat} {h : Hp} {r : Rs Tok} (c : CR h T t r) (hkn : ce_isNet kn) (hF : 1000 ≤ F) : Ev (f8_readBus F kn h) (fun h' => (∀ q, q ≠ 1 → q ≠ kn → h' q = h q) ∧ (∀ j, j ≠ 1 → j ≠ 2 → h' kn j = h kn j) ∧ CR h' T t (b3 t T r) ∧ ∀ y, b3 t T r = .inr y → h' kn 1 = nI (vN t (b1 t T r)) ∧ h' kn 2 = nI (vN t (b2 t T r))) := by
  have bn := net_le hkn
  unfold f8_readBus
  refine Ev.bind (y_takeWord c (by omega : 0 < 9) hF) (fun h1 q1 => ?_)
  refine Ev.bind (y_takeWord q1.2 (by omega : 1 < 9) hF) (fun h2 q2 => ?_)
  refine Ev.bind (y_takeNumber (lo := 0) (hi := 20) q2.2 (by omega) (by omega) hF) (fun o3 q3 => Ev.nm ?_)
  obtain ⟨f3, c3, v3⟩ := q3
  have c3' : CR (hp_up o3.2 kn 1 o3.1) T t (bnd (b1 t T r) (pN t T 0 20)) := CR.eqv c3 (up_kk _ _ _ _ _ (by omega)) (up_kk _ _ _ _ _ (by omega)) (up_kk _ _ _ _ _ (by omega))
  refine Ev.bind (y_takeWord c3' (by omega : 2 < 9) hF) (fun h4 q4 => ?_)
  refine Ev.bind (y_takeNumber (lo := 0) (hi := 9) q4.2 (by omega) (by omega) hF) (fun o5 q5 => Ev.nm (Ev.some ?_))
  obtain ⟨f5, c5, v5⟩ := q5
  have k45 : ∀ q, q ≠ 1 → o5.2 q = hp_up o3.2 kn 1 o3.1 q := fun q hq => by rw [f5 q hq, q4.1 q hq]
  have k3 : ∀ q, q ≠ 1 → o3.2 q = h q := fun q hq => by rw [f3 q hq, q2.1 q hq, q1.1 q hq]
  refine ⟨fun q n1 n2 => ?_, fun j n1 n2 => ?_, CR.eqv c5 (up_kk _ _ _ _ _ (by omega)) (up_kk _ _ _ _ _ (by omega)) (up_kk _ _ _ _ _ (by omega)), fun y hy => ?_⟩
  · rw [up_kk _ _ _ _ _ n2, k45 q n1, up_kk _ _ _ _ _ n2, k3 q n1]
  · rw [up_j _ _ _ _ _ n2, k45 kn (by omega), up_j _ _ _ _ _ n1, k3 kn (by omega)]
  · obtain ⟨x2, e2, p2⟩ := bnd_inr hy
    obtain ⟨x1', e1', p1'⟩ := bnd_inr e2
    obtain ⟨x1, e1, p1⟩ := bnd_inr e1'
    refine ⟨?_, ?_⟩
    · rw [up_j _ _ _ _ _ (by omega), k45 kn (by omega), up_s, v3 x1 x1' e1 p1, e1]
      rfl
    · rw [up_s, v5 x2 y e2 p2, e2]
      rfl
theorem z_readsBus {T F : Nat} {t : Nat → Nat} {h : Hp} {x : Tok} (c : MR h T t (.inr x)) (hF : 1000 ≤ F) : Ev (f12_readsBus F h) (fun h' => (∀ q, q ≠ 68 → q ≠ 69 → h' q = h q) ∧ (∀ j, (j < 5 ∨ 11 < j) → h' 68 j = h 68 j) ∧ (∀ j, j ≠ 0 → j ≠ 1 → h' 69 j = h 69 j) ∧ MR h' T t (b3 t T (.inr x)) ∧ ∀ y, b3 t T (.inr x) = .inr y → h' 69 0 = nI (vN t (b1 t T (.inr x))) ∧ h' 69 1 = nI (vN t (b2 t T (.inr x)))) := by
  unfold f12_readsBus
  rw [x_misWord c.1 (by omega : 0 < 9) hF]
  refine ev_bs ?_
  dsimp only
  have ps : Ev (f12_passes F (if bo (isW t 0 x) = true then nI 1 else nI 0) h) (fun h' => FrS h h' ∧ MR h' T t (bnd (.inr x) (pW t T 0))) := by
    have pe : bnd (.inr x) (pW t T 0) = pW t T 0 x := rfl
    rw [pe]
    unfold pW
    by_cases z : bo (isW t 0 x) = true
    · rw [if_pos z, if_pos z]; exact z_pass1 c hF
    · rw [if_neg z, if_neg z]; exact z_pass0 c hF
  refine Ev.bind ps (fun h1 q1 => ?_)
  refine Ev.bind (z_named (w := 1) (lo := 0) (hi := 20) q1.2 (by omega) (by omega) (by omega) hF) (fun o3 q3 => Ev.nm ?_)
  obtain ⟨f3, c3, v3⟩ := q3
  have t0 : ((0 : Int32)).toNatClampNeg = 0 := rfl
  have t1 : ((1 : Int32)).toNatClampNeg = 1 := rfl
  rw [t0, t1]
  have c3' : MR (hp_up o3.2 69 0 o3.1) T t (bnd (b1 t T (.inr x)) (pN t T 0 20)) := MR.eqv c3 (up_kk _ _ _ _ _ (by omega)) (up_kk _ _ _ _ _ (by omega))
  refine Ev.bind (z_named (w := 2) (lo := 0) (hi := 9) c3' (by omega) (by omega) (by omega) hF) (fun o5 q5 => Ev.nm (Ev.some ?_))
  obtain ⟨f5, c5, v5⟩ := q5
  refine ⟨fun q n1 n2 => ?_, fun j hj => ?_, fun j n1 n2 => ?_, MR.eqv c5 (up_kk _ _ _ _ _ (by omega)) (up_kk _ _ _ _ _ (by omega)), fun y hy => ?_⟩
  · rw [up_kk _ _ _ _ _ n2, f5.1 q n1, up_kk _ _ _ _ _ n2, f3.1 q n1, q1.1.1 q n1]
  · rw [up_k _ _ _ _ _ _ (by omega), f5.2 j hj, up_k _ _ _ _ _ _ (by omega), f3.2 j hj, q1.1.2 j hj]
  · rw [up_j _ _ _ _ _ n2, f5.1 69 (by omega), up_j _ _ _ _ _ n1, f3.1 69 (by omega), q1.1.1 69 (by omega)]
  · obtain ⟨x2, e2, p2⟩ := bnd_inr hy
    obtain ⟨x1', e1', p1'⟩ := bnd_inr e2
    obtain ⟨x1, e1, p1⟩ := bnd_inr e1'
    refine ⟨?_, ?_⟩
    · rw [up_j _ _ _ _ _ (by omega), f5.1 69 (by omega), up_s, v3 x1 x1' e1 p1, e1]
      rfl
    · rw [up_s, v5 x2 y e2 p2, e2]
      rfl
