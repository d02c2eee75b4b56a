-- naming from the leaves inwards, as numbers
abbrev Sn : Type := Nat × (Nat → Nat)
def pr (o P : Nat → Nat) (v : Nat) : Nat := (o (P v - 1) - 1) / 4
def upn (o P : Nat → Nat) : Nat → Nat → Nat
  | 0, w => w
  | n + 1, w => pr o P (upn o P n w)
/-- a tree with its root, its parents and its depths -/
def Tr (o P : Nat → Nat) (r : Nat) (hp : Nat → Nat) : Prop := Gr o ∧ PO o P ∧ r < 10 ∧ P r = 0 ∧ hp r = 1 ∧ (∀ v, v < 10 → Cn o r v → 1 ≤ hp v ∧ hp v ≤ 10) ∧ ∀ v, v < 10 → Cn o r v → v ≠ r → P v ≠ 0 ∧ hp v = hp (pr o P v) + 1
theorem Tr.lt {o P : Nat → Nat} {r : Nat} {hp : Nat → Nat} (T : Tr o P r hp) {v : Nat} (h : Cn o r v) : v < 10 := Cn.lt T.1 h T.2.2.1
/-- below -/
def bl (o P hp : Nat → Nat) (v w : Nat) : Prop := hp v ≤ hp w ∧ upn o P (hp w - hp v) w = v
theorem bl_self (o P hp : Nat → Nat) (v : Nat) : bl o P hp v v := ⟨Nat.le_refl _, by rw [Nat.sub_self]; rfl⟩
theorem Tr.prn {o P : Nat → Nat} {r : Nat} {hp : Nat → Nat} (T : Tr o P r hp) {v : Nat} (h : Cn o r v) (hr : v ≠ r) : Cn o r (pr o P v) ∧ hp v = hp (pr o P v) + 1 := by
  have hv := T.lt h
  obtain ⟨a, b⟩ := T.2.2.2.2.2.2 v hv h hr
  obtain ⟨c, d, e⟩ := T.2.1 v hv a
  refine ⟨?_, b⟩
  unfold pr
  exact Cn.step (by omega) e (by rw [d]; exact h)
theorem Tr.up {o P : Nat → Nat} {r : Nat} {hp : Nat → Nat} (T : Tr o P r hp) {w : Nat} (h : Cn o r w) : ∀ j, j < hp w → Cn o r (upn o P j w) ∧ hp (upn o P j w) = hp w - j := by
  intro j
  induction j with
  | zero => intro _; exact ⟨h, rfl⟩
  | succ j ih =>
    intro hj
    obtain ⟨a, b⟩ := ih (by omega)
    have hr : upn o P j w ≠ r := fun z => by
      rw [z, T.2.2.2.2.1] at b
      omega
    obtain ⟨c, d⟩ := T.prn a hr
    exact ⟨c, by show hp (pr o P (upn o P j w)) = _; omega⟩
theorem Tr.hp1 {o P : Nat → Nat} {r : Nat} {hp : Nat → Nat} (T : Tr o P r hp) {w : Nat} (h : Cn o r w) (h1 : hp w = 1) : w = r := by
  apply Classical.byContradiction
  intro z
  obtain ⟨c, d⟩ := T.prn h z
  have := (T.2.2.2.2.2.1 _ (T.lt c) c).1
  omega
theorem Tr.all {o P : Nat → Nat} {r : Nat} {hp : Nat → Nat} (T : Tr o P r hp) {w : Nat} (h : Cn o r w) : bl o P hp r w := by
  have b := (T.2.2.2.2.2.1 w (T.lt h) h).1
  have hr := T.2.2.2.2.1
  obtain ⟨c, d⟩ := T.up h (hp w - hp r) (by omega)
  exact ⟨by omega, T.hp1 c (by omega)⟩
/-- a child's end -/
theorem Tr.chn {o P : Nat → Nat} {r : Nat} {hp : Nat → Nat} (T : Tr o P r hp) {e : Nat} (he : e < 40) (hc : Cn o r (e / 4)) (h : ch o P e = true) : Cn o r ((o e - 1) / 4) ∧ (o e - 1) / 4 ≠ r ∧ pr o P ((o e - 1) / 4) = e / 4 ∧ hp ((o e - 1) / 4) = hp (e / 4) + 1 ∧ P ((o e - 1) / 4) = o e := by
  obtain ⟨a, b⟩ := ch_t.mp h
  obtain ⟨g1, g2, g3⟩ := T.1 e he a
  have c1 : Cn o r ((o e - 1) / 4) := Cn.step he a hc
  have c2 : (o e - 1) / 4 ≠ r := fun z => by rw [z, T.2.2.2.1] at b; omega
  have c3 : pr o P ((o e - 1) / 4) = e / 4 := by
    unfold pr
    rw [b, g2]
    rfl
  have := (T.prn c1 c2).2
  rw [c3] at this
  exact ⟨c1, c2, c3, this, b⟩
/-- and back: the end by which a node is a child -/
theorem Tr.ce {o P : Nat → Nat} {r : Nat} {hp : Nat → Nat} (T : Tr o P r hp) {c : Nat} (hc : Cn o r c) (h : c ≠ r) : ∃ e, e < 40 ∧ e / 4 = pr o P c ∧ ch o P e = true ∧ (o e - 1) / 4 = c ∧ o e = P c := by
  have hv := T.lt hc
  obtain ⟨a, b⟩ := T.2.2.2.2.2.2 c hv hc h
  obtain ⟨d1, d2, d3⟩ := T.2.1 c hv a
  obtain ⟨g1, g2, g3⟩ := T.1 (P c - 1) (by omega) d3
  have e1 : o (o (P c - 1) - 1) = P c := by rw [g2]; omega
  refine ⟨o (P c - 1) - 1, by omega, rfl, ch_t.mpr ⟨by omega, ?_⟩, ?_, e1⟩
  · rw [e1, d2]
  · rw [e1, d2]
theorem bl_up {o P : Nat → Nat} {r : Nat} {hp : Nat → Nat} {c v w : Nat} (h1 : pr o P c = v) (h2 : hp c = hp v + 1) (h : bl o P hp c w) : bl o P hp v w := by
  obtain ⟨a, b⟩ := h
  refine ⟨by omega, ?_⟩
  rw [show hp w - hp v = (hp w - hp c) + 1 by omega]
  show pr o P (upn o P (hp w - hp c) w) = v
  rw [b, h1]
theorem bl_one {o P : Nat → Nat} {hp : Nat → Nat} {c c' w : Nat} (h : bl o P hp c w) (h' : bl o P hp c' w) (e : hp c = hp c') : c = c' := by
  have := h'.2
  rw [← e, h.2] at this
  exact this
theorem Tr.down {o P : Nat → Nat} {r : Nat} {hp : Nat → Nat} (T : Tr o P r hp) {v w : Nat} (hv : Cn o r v) (hw : Cn o r w) (h : bl o P hp v w) (hn : w ≠ v) : ∃ c, Cn o r c ∧ c ≠ r ∧ pr o P c = v ∧ hp c = hp v + 1 ∧ bl o P hp c w := by
  obtain ⟨a, b⟩ := h
  have hv1 := (T.2.2.2.2.2.1 v (T.lt hv) hv).1
  have k0 : hp w - hp v ≠ 0 := fun z => by rw [z] at b; exact hn b
  obtain ⟨k, hk⟩ : ∃ k, hp w - hp v = k + 1 := ⟨hp w - hp v - 1, by omega⟩
  obtain ⟨c1, c2⟩ := T.up hw k (by omega)
  rw [hk] at b
  have hc : hp (upn o P k w) = hp v + 1 := by omega
  refine ⟨upn o P k w, c1, fun z => ?_, b, hc, by omega, ?_⟩
  · have := T.2.2.2.2.1
    rw [z] at hc
    omega
  · rw [show hp w - hp (upn o P k w) = k by omega]
def pl (o P : Nat → Nat) (g : Nat → Sn → Sn) (v : Nat) : Nat → Sn → Sn
  | 0, st => st
  | p + 1, st => if ch o P (4 * v + p) = true then g ((o (4 * v + p) - 1) / 4) (pl o P g v p st) else pl o P g v p st
theorem pl_s (o P : Nat → Nat) (g : Nat → Sn → Sn) (v p : Nat) (st : Sn) : pl o P g v (p + 1) st = if ch o P (4 * v + p) = true then g ((o (4 * v + p) - 1) / 4) (pl o P g v p st) else pl o P g v p st := rfl
def pn (o P : Nat → Nat) : Nat → Nat → Sn → Sn
  | 0, _, st => st
  | f + 1, v, st => ((pl o P (pn o P f) v 4 st).1 + 1, un (pl o P (pn o P f) v 4 st).2 v ((pl o P (pn o P f) v 4 st).1 + 1))
theorem pn_s (o P : Nat → Nat) (f v : Nat) (st : Sn) : pn o P (f + 1) v st = ((pl o P (pn o P f) v 4 st).1 + 1, un (pl o P (pn o P f) v 4 st).2 v ((pl o P (pn o P f) v 4 st).1 + 1)) := rfl
/-- those of B are named anew, all numbers between are theirs -/
def Ns (o P : Nat → Nat) (B : Nat → Prop) (v : Nat) (st st' : Sn) : Prop :=
  st.1 ≤ st'.1 ∧ (∀ w, ¬ B w → st'.2 w = st.2 w) ∧ (∀ w, B w → st.1 < st'.2 w ∧ st'.2 w ≤ st'.1) ∧ (∀ j, st.1 < j → j ≤ st'.1 → ∃ w, B w ∧ st'.2 w = j) ∧ (∀ w w', B w → B w' → st'.2 w = st'.2 w' → w = w') ∧ ∀ w, B w → w ≠ v → pr o P w = v ∨ (B (pr o P w) ∧ st'.2 w < st'.2 (pr o P w))
theorem pl_step {o P : Nat → Nat} {r : Nat} {hp : Nat → Nat} (T : Tr o P r hp) {f : Nat} (ih : ∀ v st, Cn o r v → 11 ≤ hp v + f → Ns o P (fun w => Cn o r w ∧ bl o P hp v w) v st (pn o P f v st) ∧ (pn o P f v st).2 v = (pn o P f v st).1 ∧ ∀ w, Cn o r w → bl o P hp v w → w ≠ v → (pn o P f v st).2 w < (pn o P f v st).2 (pr o P w)) {v : Nat} {st : Sn} (hv : Cn o r v) (hf : 11 ≤ hp v + (f + 1)) : ∀ p, p ≤ 4 → Ns o P (fun w => Cn o r w ∧ ∃ q, q < p ∧ ch o P (4 * v + q) = true ∧ bl o P hp ((o (4 * v + q) - 1) / 4) w) v st (pl o P (pn o P f) v p st) := by
  have hv10 := T.lt hv
  intro p
  induction p with
  | zero =>
    intro _
    exact ⟨Nat.le_refl _, fun _ _ => rfl, fun w ⟨_, q, hq, _⟩ => absurd hq (by omega), fun j h1 h2 => by have : pl o P (pn o P f) v 0 st = st := rfl; rw [this] at h2; omega, fun w w' ⟨_, q, hq, _⟩ => absurd hq (by omega), fun w ⟨_, q, hq, _⟩ => absurd hq (by omega)⟩
  | succ p ihp =>
    intro hp4
    have I := ihp (by omega)
    rw [pl_s]
    cases hch : ch o P (4 * v + p) with
    | false =>
      rw [if_neg (by simp)]
      have same : ∀ w, (Cn o r w ∧ ∃ q, q < p + 1 ∧ ch o P (4 * v + q) = true ∧ bl o P hp ((o (4 * v + q) - 1) / 4) w) ↔ (Cn o r w ∧ ∃ q, q < p ∧ ch o P (4 * v + q) = true ∧ bl o P hp ((o (4 * v + q) - 1) / 4) w) := fun w => by
        constructor
        · rintro ⟨a, q, b, c, d⟩
          refine ⟨a, q, ?_, c, d⟩
          have : q ≠ p := fun z => by rw [z, hch] at c; exact absurd c (by simp)
          omega
        · rintro ⟨a, q, b, c, d⟩
          exact ⟨a, q, by omega, c, d⟩
      rw [show (fun w => Cn o r w ∧ ∃ q, q < p + 1 ∧ ch o P (4 * v + q) = true ∧ bl o P hp ((o (4 * v + q) - 1) / 4) w) = (fun w => Cn o r w ∧ ∃ q, q < p ∧ ch o P (4 * v + q) = true ∧ bl o P hp ((o (4 * v + q) - 1) / 4) w) from funext (fun w => propext (same w))]
      exact I
    | true =>
      rw [if_pos rfl]
      have ev : (4 * v + p) / 4 = v := by omega
      obtain ⟨c1, c2, c3, c4, c5⟩ := T.chn (e := 4 * v + p) (by omega) (by rw [ev]; exact hv) hch
      rw [ev] at c3 c4
      obtain ⟨J, J1, J2⟩ := ih ((o (4 * v + p) - 1) / 4) (pl o P (pn o P f) v p st) c1 (by omega)
      have dis : ∀ w q, q < p → ch o P (4 * v + q) = true → bl o P hp ((o (4 * v + q) - 1) / 4) w → ¬ bl o P hp ((o (4 * v + p) - 1) / 4) w := fun w q hq hc hb hb2 => by
        have ev' : (4 * v + q) / 4 = v := by omega
        obtain ⟨d1, d2, d3, d4, d5⟩ := T.chn (e := 4 * v + q) (by omega) (by rw [ev']; exact hv) hc
        rw [ev'] at d4
        have := bl_one hb hb2 (by omega)
        rw [this, c5] at d5
        have g1 := T.1 (4 * v + q) (by omega) (ch_t.mp hc).1
        have g2 := T.1 (4 * v + p) (by omega) (ch_t.mp hch).1
        rw [← d5, g2.2.1] at g1
        omega
      generalize pl o P (pn o P f) v p st = s1 at I J J1 J2
      generalize pn o P f ((o (4 * v + p) - 1) / 4) s1 = s2 at J J1 J2
      obtain ⟨i1, i2, i3, i4, i5, i6⟩ := I
      obtain ⟨j1, j2, j3, j4, j5, j6⟩ := J
      have keep : ∀ w, (Cn o r w ∧ ∃ q, q < p ∧ ch o P (4 * v + q) = true ∧ bl o P hp ((o (4 * v + q) - 1) / 4) w) → s2.2 w = s1.2 w := fun w ⟨a, q, b, c, d⟩ => j2 w (fun z => dis w q b c d z.2)
      have split : ∀ w, (Cn o r w ∧ ∃ q, q < p + 1 ∧ ch o P (4 * v + q) = true ∧ bl o P hp ((o (4 * v + q) - 1) / 4) w) → (Cn o r w ∧ ∃ q, q < p ∧ ch o P (4 * v + q) = true ∧ bl o P hp ((o (4 * v + q) - 1) / 4) w) ∨ (Cn o r w ∧ bl o P hp ((o (4 * v + p) - 1) / 4) w) := fun w ⟨a, q, b, c, d⟩ => by
        by_cases z : q = p
        · rw [z] at d; exact Or.inr ⟨a, d⟩
        · exact Or.inl ⟨a, q, by omega, c, d⟩
      have join1 : ∀ w, (Cn o r w ∧ ∃ q, q < p ∧ ch o P (4 * v + q) = true ∧ bl o P hp ((o (4 * v + q) - 1) / 4) w) → (Cn o r w ∧ ∃ q, q < p + 1 ∧ ch o P (4 * v + q) = true ∧ bl o P hp ((o (4 * v + q) - 1) / 4) w) := fun w ⟨a, q, b, c, d⟩ => ⟨a, q, by omega, c, d⟩
      have join2 : ∀ w, (Cn o r w ∧ bl o P hp ((o (4 * v + p) - 1) / 4) w) → (Cn o r w ∧ ∃ q, q < p + 1 ∧ ch o P (4 * v + q) = true ∧ bl o P hp ((o (4 * v + q) - 1) / 4) w) := fun w ⟨a, b⟩ => ⟨a, p, by omega, hch, b⟩
      refine ⟨by omega, fun w hw => ?_, fun w hw => ?_, fun j h1 h2 => ?_, fun w w' hw hw' he => ?_, fun w hw hn => ?_⟩
      · rw [j2 w (fun z => hw (join2 w z)), i2 w (fun z => hw (join1 w z))]
      · rcases split w hw with z | z
        · have := i3 w z
          rw [keep w z]
          omega
        · have := j3 w z
          omega
      · by_cases z : j ≤ s1.1
        · obtain ⟨w, a, b⟩ := i4 j h1 z
          exact ⟨w, join1 w a, by rw [keep w a]; exact b⟩
        · obtain ⟨w, a, b⟩ := j4 j (by omega) h2
          exact ⟨w, join2 w a, b⟩
      · rcases split w hw with z | z
        · rcases split w' hw' with z' | z'
          · rw [keep w z, keep w' z'] at he
            exact i5 w w' z z' he
          · have a := i3 w z
            have b := j3 w' z'
            rw [keep w z] at he
            omega
        · rcases split w' hw' with z' | z'
          · have a := i3 w' z'
            have b := j3 w z
            rw [keep w' z'] at he
            omega
          · exact j5 w w' z z' he
      · rcases split w hw with z | z
        · rcases i6 w z hn with y | ⟨y1, y2⟩
          · exact Or.inl y
          · refine Or.inr ⟨join1 _ y1, ?_⟩
            rw [keep w z, keep _ y1]
            exact y2
        · by_cases y : w = (o (4 * v + p) - 1) / 4
          · rw [y]; exact Or.inl c3
          · refine Or.inr ⟨join2 _ ?_, J2 w z.1 z.2 y⟩
            rcases j6 w z y with x | x
            · rw [x]; exact ⟨c1, bl_self _ _ _ _⟩
            · exact x.1
theorem pn_spec {o P : Nat → Nat} {r : Nat} {hp : Nat → Nat} (T : Tr o P r hp) : ∀ f v st, Cn o r v → 11 ≤ hp v + f → Ns o P (fun w => Cn o r w ∧ bl o P hp v w) v st (pn o P f v st) ∧ (pn o P f v st).2 v = (pn o P f v st).1 ∧ ∀ w, Cn o r w → bl o P hp v w → w ≠ v → (pn o P f v st).2 w < (pn o P f v st).2 (pr o P w) := by
  intro f
  induction f with
  | zero =>
    intro v st hv hf
    have := (T.2.2.2.2.2.1 v (T.lt hv) hv).2
    omega
  | succ f ih =>
    intro v st hv hf
    have hv10 := T.lt hv
    -- the children one by one
    have cl := pl_step T ih (st := st) hv hf
    have C4 := cl 4 (by omega)
    rw [pn_s]
    generalize pl o P (pn o P f) v 4 st = s1 at C4
    obtain ⟨i1, i2, i3, i4, i5, i6⟩ := C4
    have notv : ¬ (Cn o r v ∧ ∃ q, q < 4 ∧ ch o P (4 * v + q) = true ∧ bl o P hp ((o (4 * v + q) - 1) / 4) v) := fun ⟨_, q, hq, hc, hb⟩ => by
      have ev' : (4 * v + q) / 4 = v := by omega
      obtain ⟨d1, d2, d3, d4, d5⟩ := T.chn (e := 4 * v + q) (by omega) (by rw [ev']; exact hv) hc
      rw [ev'] at d4
      have := hb.1
      omega
    have split : ∀ w, Cn o r w ∧ bl o P hp v w → w = v ∨ (w ≠ v ∧ (Cn o r w ∧ ∃ q, q < 4 ∧ ch o P (4 * v + q) = true ∧ bl o P hp ((o (4 * v + q) - 1) / 4) w)) := fun w ⟨a, b⟩ => by
      by_cases z : w = v
      · exact Or.inl z
      · obtain ⟨c, c1, c2, c3, c4, c5⟩ := T.down hv a b z
        obtain ⟨e, e1, e2, e3, e4, e5⟩ := T.ce c1 c2
        rw [c3] at e2
        refine Or.inr ⟨z, a, e % 4, by omega, ?_, ?_⟩
        · rw [show 4 * v + e % 4 = e by omega]; exact e3
        · rw [show 4 * v + e % 4 = e by omega, e4]; exact c5
    have join : ∀ w, (Cn o r w ∧ ∃ q, q < 4 ∧ ch o P (4 * v + q) = true ∧ bl o P hp ((o (4 * v + q) - 1) / 4) w) → w ≠ v ∧ Cn o r w ∧ bl o P hp v w := fun w hw => by
      refine ⟨fun z => notv (by rw [z] at hw; exact hw), hw.1, ?_⟩
      obtain ⟨_, q, hq, hc, hb⟩ := hw
      have ev' : (4 * v + q) / 4 = v := by omega
      obtain ⟨d1, d2, d3, d4, d5⟩ := T.chn (e := 4 * v + q) (by omega) (by rw [ev']; exact hv) hc
      rw [ev'] at d3 d4
      exact bl_up (r := r) d3 d4 hb
    have vv : (un s1.2 v (s1.1 + 1)) v = s1.1 + 1 := un_s _ _ _
    have vn : ∀ w, w ≠ v → (un s1.2 v (s1.1 + 1)) w = s1.2 w := fun w hw => un_n hw
    dsimp only
    refine ⟨⟨by dsimp only; omega, fun w hw => ?_, fun w hw => ?_, fun j h1 h2 => ?_, fun w w' hw hw' he => ?_, fun w hw hn => ?_⟩, vv, fun w hw hb hn => ?_⟩
    · have : w ≠ v := fun z => hw (by rw [z]; exact ⟨hv, bl_self _ _ _ _⟩)
      dsimp only
      rw [vn w this]
      exact i2 w (fun z => hw (join w z).2)
    · dsimp only
      rcases split w hw with z | ⟨z, y⟩
      · rw [z, vv]; omega
      · rw [vn w z]
        have := i3 w y
        omega
    · dsimp only at h2 ⊢
      by_cases z : j = s1.1 + 1
      · exact ⟨v, ⟨hv, bl_self _ _ _ _⟩, by rw [vv, z]⟩
      · obtain ⟨w, a, b⟩ := i4 j h1 (by omega)
        have c := join w a
        exact ⟨w, c.2, by rw [vn w c.1]; exact b⟩
    · dsimp only at he
      rcases split w hw with z | ⟨z, y⟩
      · rcases split w' hw' with z' | ⟨z', y'⟩
        · rw [z, z']
        · rw [z, vv, vn w' z'] at he
          have := i3 w' y'
          omega
      · rcases split w' hw' with z' | ⟨z', y'⟩
        · rw [z', vv, vn w z] at he
          have := i3 w y
          omega
        · rw [vn w z, vn w' z'] at he
          exact i5 w w' y y' he
    · rcases split w hw with z | ⟨z, y⟩
      · exact absurd z hn
      · rcases i6 w y z with x | ⟨x1, x2⟩
        · exact Or.inl x
        · refine Or.inr ⟨(join _ x1).2, ?_⟩
          dsimp only
          rw [vn w z, vn _ (join _ x1).1]
          exact x2
    · rcases split w ⟨hw, hb⟩ with z | ⟨z, y⟩
      · exact absurd z hn
      · rcases i6 w y z with x | ⟨x1, x2⟩
        · rw [x, vv, vn w z]
          have := i3 w y
          omega
        · rw [vn w z, vn _ (join _ x1).1]
          exact x2
theorem pl_spec {o P : Nat → Nat} {r : Nat} {hp : Nat → Nat} (T : Tr o P r hp) {f v : Nat} {st : Sn} (hv : Cn o r v) (hf : 11 ≤ hp v + (f + 1)) : ∀ p, p ≤ 4 → Ns o P (fun w => Cn o r w ∧ ∃ q, q < p ∧ ch o P (4 * v + q) = true ∧ bl o P hp ((o (4 * v + q) - 1) / 4) w) v st (pl o P (pn o P f) v p st) := pl_step T (fun v st h1 h2 => pn_spec T f v st h1 h2) hv hf
theorem pn_lt {o P : Nat → Nat} {r : Nat} {hp : Nat → Nat} (T : Tr o P r hp) {f v : Nat} {st : Sn} (hv : Cn o r v) (hf : 11 ≤ hp v + f) : st.1 < (pn o P f v st).1 := by
  obtain ⟨a, b, c⟩ := pn_spec T f v st hv hf
  have := a.2.2.1 v ⟨hv, bl_self _ _ _ _⟩
  omega
/-- two children of a node have nobody in common -/
theorem Tr.dis {o P : Nat → Nat} {r : Nat} {hp : Nat → Nat} (T : Tr o P r hp) {v w p q : Nat} (hv : Cn o r v) (hp4 : p < 4) (hq4 : q < 4) (hpq : p ≠ q) (hc : ch o P (4 * v + p) = true) (hc' : ch o P (4 * v + q) = true) (hb : bl o P hp ((o (4 * v + p) - 1) / 4) w) : ¬ bl o P hp ((o (4 * v + q) - 1) / 4) w := fun hb2 => by
  have hv10 := T.lt hv
  have ev : (4 * v + p) / 4 = v := by omega
  have ev' : (4 * v + q) / 4 = v := by omega
  obtain ⟨c1, c2, c3, c4, c5⟩ := T.chn (e := 4 * v + p) (by omega) (by rw [ev]; exact hv) hc
  obtain ⟨d1, d2, d3, d4, d5⟩ := T.chn (e := 4 * v + q) (by omega) (by rw [ev']; exact hv) hc'
  rw [ev] at c4
  rw [ev'] at d4
  have := bl_one hb hb2 (by omega)
  rw [this, d5] at c5
  have g1 := T.1 (4 * v + q) (by omega) (ch_t.mp hc').1
  have g2 := T.1 (4 * v + p) (by omega) (ch_t.mp hc).1
  rw [c5, g2.2.1] at g1
  omega
