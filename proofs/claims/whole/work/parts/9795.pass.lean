-- the reference passes a word, reads a number
def FrS (h h' : Hp) : Prop := (∀ c, c ≠ 68 → h' c = h c) ∧ ∀ j, (j < 5 ∨ 11 < j) → h' 68 j = h 68 j
theorem FrS.refl (h : Hp) : FrS h h := ⟨fun _ _ => rfl, fun _ _ => rfl⟩
theorem FrS.trans {h1 h2 h3 : Hp} (a : FrS h1 h2) (b : FrS h2 h3) : FrS h1 h3 := ⟨fun c hc => (b.1 c hc).trans (a.1 c hc), fun j hj => (b.2 j hj).trans (a.2 j hj)⟩
theorem FrR.fs {h h' : Hp} (f : FrR h h') : FrS h h' := ⟨f.1, fun j hj => f.2 j (by omega)⟩
def MR (h : Hp) (T : Nat) (t : Nat → Nat) (r : Rs Tok) : Prop := match r with
  | .inl f => TM h T t ∧ h 68 11 = nI 1 ∧ h 68 5 = nI f.1 ∧ h 68 6 = nI f.2
  | .inr x => RP h T t x ∧ h 68 5 = nI 0 ∧ h 68 6 = mm
theorem MR.tm {h : Hp} {T : Nat} {t : Nat → Nat} {r : Rs Tok} (c : MR h T t r) : TM h T t := by
  cases r with
  | inl f => exact c.1
  | inr x => exact c.1.1
theorem MR.bad {h : Hp} {T : Nat} {t : Nat → Nat} {f : Nat × Nat} (c : MR h T t (.inl f)) : ¬ h 68 11 = 0 := by
  rw [c.2.1]
  decide
theorem MR.good {h : Hp} {T : Nat} {t : Nat → Nat} {x : Tok} (c : MR h T t (.inr x)) : h 68 11 = 0 := by
  rw [c.1.2.2.1]
  rfl
theorem z_next {T F : Nat} {t : Nat → Nat} {h : Hp} {x : Tok} (c : MR h T t (.inr x)) (hF : 1000 ≤ F) : Ev (f12_next F h) (fun h' => FrS h h' ∧ MR h' T t (.inr (tn t T x.2.1))) := by
  obtain ⟨⟨tm, lr, fine, ok⟩, h5, h6⟩ := c
  refine Ev.mono (x_next tm lr.2.1 ok.2.1 hF) (fun h' hh => ?_)
  obtain ⟨f, s, e, k, tk, l⟩ := hh
  refine ⟨f.fs, ⟨f.tm tm, ?_, ?_, ?_⟩, ?_, ?_⟩
  · rw [tn_eq tk]; exact l
  · rw [f.2 11 (by omega)]; exact fine
  · rw [tn_eq tk]; exact tk.okT ok.2.1
  · rw [f.2 5 (by omega)]; exact h5
  · rw [f.2 6 (by omega)]; exact h6
theorem z_faults {T k F : Nat} {t : Nat → Nat} {h : Hp} {r : Rs Tok} (c : MR h T t r) : Ev (f12_faults F (nI k) h) (fun h' => FrS h h' ∧ MR h' T t (bnd r (fun x => .inl (k, x.1)))) := by
  unfold f12_faults
  cases r with
  | inl f => exact Ev.neg c.bad (Ev.some ⟨FrS.refl _, c⟩)
  | inr x =>
    refine Ev.pos c.good (Ev.nm (Ev.nm (Ev.nm (Ev.some ⟨⟨fun q hq => ?_, fun j hj => ?_⟩, ⟨c.1.1.1, ?_, ?_⟩, ?_, ?_, ?_⟩))))
    · rw [up_kk _ _ _ _ _ hq, up_kk _ _ _ _ _ hq, up_kk _ _ _ _ _ hq]
    · rw [up_j _ _ _ _ _ (by omega), up_j _ _ _ _ _ (by omega), up_j _ _ _ _ _ (by omega)]
    · rw [up_j _ _ _ _ _ (by omega), up_j _ _ _ _ _ (by omega), up_j _ _ _ _ _ (by omega)]; exact c.1.1.2.1
    · rw [up_kk _ _ _ _ _ (by omega), up_kk _ _ _ _ _ (by omega), up_kk _ _ _ _ _ (by omega)]; exact c.1.1.2.2
    · rw [up_j _ _ _ _ _ (by omega), up_j _ _ _ _ _ (by omega), up_s]; rfl
    · rw [up_j _ _ _ _ _ (by omega), up_s]
    · rw [up_s, up_j _ _ _ _ _ (by omega), up_j _ _ _ _ _ (by omega)]; exact c.1.2.1.1
theorem z_pass1 {T F : Nat} {t : Nat → Nat} {h : Hp} {r : Rs Tok} (c : MR h T t r) (hF : 1000 ≤ F) : Ev (f12_passes F (1 : Int32) h) (fun h' => FrS h h' ∧ MR h' T t (bnd r (fun x => .inr (tn t T x.2.1)))) := by
  unfold f12_passes
  refine Ev.neg (by decide) ?_
  cases r with
  | inl f => exact Ev.neg c.bad (Ev.some ⟨FrS.refl _, c⟩)
  | inr x => exact Ev.pos c.good (Ev.bind (z_next c hF) (fun h' hh => Ev.some hh))
theorem z_pass0 {T F : Nat} {t : Nat → Nat} {h : Hp} {r : Rs Tok} (c : MR h T t r) (hF : 1000 ≤ F) : Ev (f12_passes F (0 : Int32) h) (fun h' => FrS h h' ∧ MR h' T t (bnd r (fun x => .inl (1, x.1)))) := by
  unfold f12_passes
  refine Ev.pos rfl (Ev.bind (z_faults (k := 1) c) (fun h1 hh => ?_))
  cases r with
  | inl f => exact Ev.neg hh.2.bad (Ev.some hh)
  | inr x => exact Ev.neg (MR.bad (f := (1, x.1)) hh.2) (Ev.some hh)
theorem z_reads {T lo hi F : Nat} {t : Nat → Nat} {h : Hp} {r : Rs Tok} (c : MR h T t r) (hh : hi ≤ 999) (hl : lo ≤ 999) (hF : 1000 ≤ F) : Ev (f12_reads F (nI lo) (nI hi) h) (fun o => FrS h o.2 ∧ MR o.2 T t (bnd r (pN t T lo hi)) ∧ ∀ x y, r = .inr x → pN t T lo hi x = .inr y → o.1 = nI (vR t x.1 (x.2.1 - x.1))) := by
  unfold f12_reads
  cases r with
  | inl f => exact Ev.neg c.bad (Ev.some ⟨FrS.refl _, c, fun x y q => by cases q⟩)
  | inr x =>
    show Ev _ (fun (o : Int32 × Hp) => FrS h o.2 ∧ MR o.2 T t (pN t T lo hi x) ∧ ∀ x' y, (Sum.inr x : Rs Tok) = .inr x' → pN t T lo hi x' = .inr y → o.1 = nI (vR t x'.1 (x'.2.1 - x'.1)))
    have c0 := c.1
    have kl := c0.2.2.2.2.2.1
    refine Ev.pos c.good ?_
    by_cases z : x.2.2 = 2
    · have dg := c0.2.2.2.2.2.2 z
      have o1 := c0.2.2.2.1
      have rc := vRC (t := t) (s := x.1) (x.2.1 - x.1) (fun i hi => (dg (x.1 + i) (by omega) (by omega)).2)
      have v10 : h 68 10 = nI (vR t x.1 (x.2.1 - x.1)) := by rw [c0.2.1.2.2.2, if_pos z]
      have pn : pN t T lo hi x = if lo ≤ vR t x.1 (x.2.1 - x.1) ∧ vR t x.1 (x.2.1 - x.1) ≤ hi then .inr (tn t T x.2.1) else .inl (2, x.1) := by unfold pN; rw [if_pos z]
      refine Ev.pos (by rw [c0.2.1.2.2.1, z]; rfl) ?_
      rw [v10, x_in]
      refine ev_bs ?_
      dsimp only
      generalize hr : vR t x.1 (x.2.1 - x.1) = vr at rc pn
      have e : (nI lo ≤ nI vr ∧ nI vr ≤ nI hi) = (lo ≤ vr ∧ vr ≤ hi) := by rw [ni_le (by omega) (by omega), ni_le (by omega) (by omega)]
      by_cases y : lo ≤ vr ∧ vr ≤ hi
      · rw [if_pos y] at pn
        refine Ev.neg (by rw [if_pos (by rw [e]; exact y)]; decide) (Ev.bind (z_pass1 c hF) (fun h' q => Ev.some ⟨q.1, ?_, fun x' y' e' _ => ?_⟩))
        · rw [pn]; exact q.2
        · cases e'
          rw [hr]
      · rw [if_neg y] at pn
        refine Ev.pos (by rw [if_neg (by rw [e]; exact y)]; rfl) (Ev.bind (z_faults (k := 2) c) (fun h1 q1 => Ev.bind (z_pass1 q1.2 hF) (fun h' q => Ev.some ⟨q1.1.trans q.1, ?_, fun x' y' e' w => ?_⟩)))
        · rw [pn]; exact q.2
        · cases e'
          rw [pn] at w
          cases w
    · have pn : pN t T lo hi x = .inl (1, x.1) := by unfold pN; rw [if_neg z]
      refine Ev.neg (by rw [c0.2.1.2.2.1, l32_2, ni_eq (by omega) (by omega)]; exact z) (Ev.bind (z_faults (k := 1) c) (fun h1 q1 => Ev.bind (z_pass1 q1.2 hF) (fun h' q => Ev.some ⟨q1.1.trans q.1, ?_, fun x' y' e' w => ?_⟩)))
      · rw [pn]; exact q.2
      · cases e'
        rw [pn] at w
        cases w
/-- passes(bad || isWord(w)) -/
theorem z_word {T w F : Nat} {t : Nat → Nat} {h : Hp} {r : Rs Tok} {α : Type} {G : Hp → Option α} {Q : α → Prop} (c : MR h T t r) (hw : w < 9) (hF : 1000 ≤ F) (k : ∀ h', FrS h h' → MR h' T t (bnd r (pW t T w)) → Ev (G h') Q) : Ev (if (h 68 11) = 0 then Option.bind (f12_isWord F w h) (fun o10 => if o10.1 = 0 then Option.bind (f12_passes F (0 : Int32) o10.2) G else Option.bind (f12_passes F (1 : Int32) o10.2) G) else Option.bind (f12_passes F (1 : Int32) h) G) Q := by
  cases r with
  | inl f => exact Ev.neg c.bad (Ev.bind (z_pass1 c hF) (fun h' q => k h' q.1 q.2))
  | inr x =>
    refine Ev.pos c.good ?_
    rw [x_misWord c.1 hw hF]
    refine ev_bs ?_
    dsimp only
    have pe : bnd (.inr x) (pW t T w) = pW t T w x := rfl
    by_cases z : bo (isW t w x) = true
    · refine Ev.neg (by rw [if_pos z]; decide) (Ev.bind (z_pass1 c hF) (fun h' q => k h' q.1 ?_))
      rw [pe]
      unfold pW
      rw [if_pos z]
      exact q.2
    · refine Ev.pos (by rw [if_neg z]; rfl) (Ev.bind (z_pass0 c hF) (fun h' q => k h' q.1 ?_))
      rw [pe]
      unfold pW
      rw [if_neg z]
      exact q.2
theorem z_named {T w lo hi F : Nat} {t : Nat → Nat} {h : Hp} {r : Rs Tok} (c : MR h T t r) (hw : w < 9) (hh : hi ≤ 999) (hl : lo ≤ 999) (hF : 1000 ≤ F) : Ev (f12_named F w (nI lo) (nI hi) h) (fun o => FrS h o.2 ∧ MR o.2 T t (bnd (bnd r (pW t T w)) (pN t T lo hi)) ∧ ∀ x y, bnd r (pW t T w) = .inr x → pN t T lo hi x = .inr y → o.1 = nI (vR t x.1 (x.2.1 - x.1))) := by
  unfold f12_named
  exact z_word (G := fun o21 => Option.bind (f12_reads F (nI lo) (nI hi) o21) (fun o27 => some (o27.1, o27.2))) c hw hF (fun h' f' c' => Ev.bind (z_reads c' hh hl hF) (fun o ho => Ev.some ⟨f'.trans ho.1, ho.2.1, ho.2.2⟩))
