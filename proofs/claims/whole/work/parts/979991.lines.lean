-- lines of a text, one by one
theorem ct0 {p : Nat → Bool} {n : Nat} (h : ∀ i, i < n → p i = false) : ct p n = 0 := by
  induction n with
  | zero => rfl
  | succ n ih =>
    unfold ct
    rw [ih (fun i hi => h i (by omega)), h n (by omega)]
    rfl
noncomputable def lineB (t : Nat → Nat) (T : Nat) (s : St) : Rs St := if s.2.1 3 = 0 then bnd (b3 t T (.inr s.1)) (fun y => .inr (y, un (un s.2.1 0 (vN t (b1 t T (.inr s.1)))) 1 (vN t (b2 t T (.inr s.1))), s.2.2)) else if bo (isW t 3 s.1) = true then nodeP t T s.1 s.2.1 s.2.2 else if bo (isW t 4 s.1) = true then cableP t T s.1 s.2.1 s.2.2 else .inl (1, s.1.1)
noncomputable def lineS (t : Nat → Nat) (T : Nat) (u : St) : Rs St := bnd (pS t T u.1) (fun y => .inr (y, un u.2.1 3 (u.2.1 3 + 1), u.2.2))
noncomputable def lineP (t : Nat → Nat) (T : Nat) (s : St) : Rs St := bnd (lineB t T s) (lineS t T)
noncomputable def lnP (t : Nat → Nat) (T : Nat) : Nat → Rs St
  | 0 => .inr (tn t T 0, fun _ => 0, fun _ => (0, 0))
  | n + 1 => bnd (lnP t T n) (lineP t T)
theorem lnP_s (t : Nat → Nat) (T n : Nat) : lnP t T (n + 1) = bnd (lnP t T n) (lineP t T) := rfl
/-- what holds of a net half read -/
def ISb (t : Nat → Nat) (T i : Nat) (p : Nat) (s : St) : Prop := isT t T s.1 ∧ p ≤ s.1.1 ∧ OkN s.2.1 ∧ s.2.1 3 = i ∧ s.2.1 4 = 0 ∧ okA T (s.2.1 2) s.2.2 ∧ ctc s.2.1 ≤ 15 ∧ ∀ v, s.2.1 2 ≤ v → v < 10 → s.2.1 (15 + v) = 0 ∧ s.2.1 (35 + v) = 0
theorem og_un {m : Nat → Nat} {k x : Nat} (h : k < 45) : og (un m k x) = og m := funext (fun e => un_n (by omega))
theorem ctc_un {m : Nat → Nat} {k x : Nat} (h : k < 45) : ctc (un m k x) = ctc m := by
  unfold ctc
  rw [og_un h]
theorem OkN.bus {m : Nat → Nat} {a b : Nat} (on : OkN m) (ha : a ≤ 20) (hb : b ≤ 9) : OkN (un (un m 0 a) 1 b) := by
  obtain ⟨⟨a1, a2, a3, a4, a5⟩, c, d, e, f, g, k⟩ := on
  have n : ∀ j, j ≠ 0 → j ≠ 1 → un (un m 0 a) 1 b j = m j := fun j h0 h1 => by rw [un_n h1, un_n h0]
  have o : og (un (un m 0 a) 1 b) = og m := by rw [og_un (by omega), og_un (by omega)]
  refine ⟨⟨by rw [un_s]; exact hb, by rw [n 2 (by omega) (by omega)]; exact a2, fun v hv => ?_, by rw [o]; exact a4, fun q hq h0 => ?_⟩, fun v hv => ?_, by rw [un_n (by omega), un_s]; exact ha, fun v hv => ?_, by rw [n 3 (by omega) (by omega)]; exact f, by rw [n 4 (by omega) (by omega)]; exact g, fun z => ?_⟩
  · rw [n 2 (by omega) (by omega)] at hv
    rw [n _ (by omega) (by omega)]; exact a3 v hv
  · rw [o] at h0 ⊢
    rw [n 2 (by omega) (by omega), n _ (by omega) (by omega), n _ (by omega) (by omega), n _ (by omega) (by omega)]
    exact a5 q hq h0
  · rw [n 2 (by omega) (by omega)] at hv
    rw [n _ (by omega) (by omega), n _ (by omega) (by omega)]; exact c v hv
  · rw [n 2 (by omega) (by omega)] at hv
    rw [n _ (by omega) (by omega)]; exact e v hv
  · rw [n 3 (by omega) (by omega)] at z
    rw [n 2 (by omega) (by omega), n 4 (by omega) (by omega)]; exact k z
theorem OkN.lines {m : Nat → Nat} {a : Nat} (on : OkN m) (ha : a ≤ 700) (h0 : a ≠ 0) : OkN (un m 3 a) := by
  obtain ⟨⟨a1, a2, a3, a4, a5⟩, c, d, e, f, g, k⟩ := on
  have n : ∀ j, j ≠ 3 → un m 3 a j = m j := fun j h0 => by rw [un_n h0]
  have o : og (un m 3 a) = og m := og_un (by omega)
  refine ⟨⟨by rw [n 1 (by omega)]; exact a1, by rw [n 2 (by omega)]; exact a2, fun v hv => ?_, by rw [o]; exact a4, fun q hq h0 => ?_⟩, fun v hv => ?_, by rw [n 0 (by omega)]; exact d, fun v hv => ?_, by rw [un_s]; exact ha, by rw [n 4 (by omega)]; exact g, fun z => ?_⟩
  · rw [n 2 (by omega)] at hv
    rw [n _ (by omega)]; exact a3 v hv
  · rw [o] at h0 ⊢
    rw [n 2 (by omega), n _ (by omega), n _ (by omega), n _ (by omega)]
    exact a5 q hq h0
  · rw [n 2 (by omega)] at hv
    rw [n _ (by omega), n _ (by omega)]; exact c v hv
  · rw [n 2 (by omega)] at hv
    rw [n _ (by omega)]; exact e v hv
  · rw [un_s] at z
    exact absurd z h0
theorem OkN.zero : OkN (fun _ => 0) := ⟨⟨Nat.zero_le _, Nat.zero_le _, fun v hv => absurd hv (Nat.not_lt_zero v), fun e he h => absurd rfl h, fun e he h => absurd rfl h⟩, fun v hv => absurd hv (Nat.not_lt_zero v), Nat.zero_le _, fun v hv => absurd hv (Nat.not_lt_zero v), Nat.zero_le _, Nat.zero_le _, fun _ => ⟨rfl, rfl⟩⟩
theorem ctc_zero : ctc (fun _ => 0) = 0 := by
  have : ct (fun e => bo (og (fun _ => 0) e ≠ 0)) 40 = 0 := ct0 (fun i hi => bo_f (fun q => q rfl))
  unfold ctc
  rw [this]
theorem fO_le (t : Nat → Nat) (x : Tok) : fO t x ≤ 1 := by
  unfold fO
  by_cases w : bo (isW t 5 x) = true
  · rw [if_pos w]; omega
  · rw [if_neg w]; omega
theorem lineB_is {t : Nat → Nat} {T i : Nat} {s u : St} (h : ISb t T i i s) (e : lineB t T s = .inr u) : ISb t T i s.1.1 u := by
  obtain ⟨x, m, na⟩ := s
  obtain ⟨ix, le, on, m3, m4, oa, c15, z⟩ := h
  dsimp only at ix le on m3 m4 oa c15 z ⊢
  have h2 := on.1.2.1
  unfold lineB at e
  dsimp only at e
  by_cases first : m 3 = 0
  · rw [if_pos first] at e
    obtain ⟨y, e3, ey⟩ := bnd_inr e
    cases ey
    obtain ⟨v1, v2⟩ := b3_v e3
    have mo : Mo t T x (b3 t T (.inr x)) := (((((Mo.self ix).bnd (fun y hy => pW_mo hy)).bnd (fun y hy => pW_mo hy)).bnd (fun y hy => pN_mo hy)).bnd (fun y hy => pW_mo hy)).bnd (fun y hy => pN_mo hy)
    obtain ⟨iy, ly⟩ := mo y e3
    have n : ∀ j, j ≠ 0 → j ≠ 1 → un (un m 0 (vN t (b1 t T (.inr x)))) 1 (vN t (b2 t T (.inr x))) j = m j := fun j h0 h1 => by rw [un_n h1, un_n h0]
    refine ⟨iy, ly, on.bus v1 v2, ?_, ?_, ?_, ?_, fun v q1 q2 => ?_⟩
    · dsimp only; rw [n 3 (by omega) (by omega)]; exact m3
    · dsimp only; rw [n 4 (by omega) (by omega)]; exact m4
    · dsimp only; rw [n 2 (by omega) (by omega)]; exact oa
    · dsimp only; rw [ctc_un (by omega), ctc_un (by omega)]; exact c15
    · dsimp only at q1 ⊢
      rw [n 2 (by omega) (by omega)] at q1
      rw [n _ (by omega) (by omega), n _ (by omega) (by omega)]; exact z v q1 q2
  · rw [if_neg first] at e
    by_cases w3 : bo (isW t 3 x) = true
    · rw [if_pos w3] at e
      unfold nodeP at e
      by_cases full : m 2 < 10
      · rw [if_pos full] at e
        obtain ⟨x4, e4, e5⟩ := bnd_inr e
        unfold nTl at e5
        obtain ⟨x6, e6, e7⟩ := bnd_inr e5
        cases e7
        obtain ⟨i4, l4⟩ := nR4_is ix e4
        obtain ⟨i5, l5⟩ := x5_is i4
        obtain ⟨i6, l6⟩ := pQ_mo i5 x6 e6
        obtain ⟨y3, e3, p3⟩ := bnd_inr e4
        obtain ⟨y2, e2, p2⟩ := bnd_inr e3
        obtain ⟨k1, k8, w8, -⟩ := isW_kO i5 e6
        have pv := pN_v p3
        have ev : vN t (nR3 t T m na x) = vR t y3.1 (y3.2.1 - y3.1) := by rw [e3]; rfl
        refine ⟨i6, by dsimp only; omega, on.add full first (by omega) (by omega) (fO_le t x4) k1 k8 w8, ?_, ?_, ?_, ?_, fun v q1 q2 => ?_⟩
        · dsimp only; rw [addm_n (by omega) (by omega) (by omega) (by omega) (by omega)]; exact m3
        · dsimp only; rw [addm_n (by omega) (by omega) (by omega) (by omega) (by omega)]; exact m4
        · dsimp only; rw [addm_2]; exact pM_okA (tn_is ix).1 oa full e2
        · dsimp only; unfold ctc; rw [addm_og full]; exact c15
        · dsimp only at q1 ⊢
          rw [addm_2] at q1
          rw [addm_n (by omega) (by omega) (by omega) (by omega) (by omega), addm_n (by omega) (by omega) (by omega) (by omega) (by omega)]; exact z v (by omega) q2
      · rw [if_neg full] at e; cases e
    · rw [if_neg w3] at e
      by_cases w4 : bo (isW t 4 x) = true
      · rw [if_pos w4] at e
        unfold cableP at e
        by_cases full : ctc m < 15
        · rw [if_pos full] at e
          obtain ⟨x6, e6, e7⟩ := bnd_inr e
          unfold cTl at e7
          cases e7
          have mo : Mo t T x (cr6 t T m na x) := (((((tn_mo ix (pK_mo (tn_is ix).1)).bnd (fun y hy => pP_mo hy)).bnd (fun y hy => pK_mo hy)).bnd (fun y hy => pP_mo hy)).bnd (fun y hy => pW_mo hy)).bnd (fun y hy => pN_mo hy)
          obtain ⟨i6, l6⟩ := mo x6 e6
          obtain ⟨he, hg, neq, on', pg, oe, len⟩ := cab_lym on e6
          have small : ∀ j, j < 45 → lym m (cE t T m na x) (cG t T m na x) (vN t (cr5 t T m na x)) j = m j := fun j hj => by unfold lym; rw [if_neg (by omega), if_neg (by omega), if_neg (by omega)]
          have cn := pg.ctn on'.1.2.2.2.1 he (by rw [oe]; omega)
          refine ⟨i6, l6, on', ?_, ?_, ?_, ?_, fun v q1 q2 => ?_⟩
          · dsimp only; rw [small 3 (by omega)]; exact m3
          · dsimp only; rw [small 4 (by omega)]; exact m4
          · dsimp only; rw [small 2 (by omega)]; exact oa
          · dsimp only
            unfold ctc at full ⊢
            omega
          · dsimp only at q1 ⊢
            rw [small 2 (by omega)] at q1
            rw [small _ (by omega), small _ (by omega)]; exact z v q1 q2
        · rw [if_neg full] at e; cases e
      · rw [if_neg w4] at e; cases e
theorem lineP_is {t : Nat → Nat} {T i : Nat} {s u : St} (hT : T ≤ 700) (h : ISb t T i i s) (k0 : s.1.2.2 ≠ 0) (e : lineP t T s = .inr u) : ISb t T (i + 1) (i + 1) u := by
  obtain ⟨b, eb, e2⟩ := bnd_inr e
  have le := h.2.1
  have lt := h.1.ok.2.2.2 k0
  have lT := h.1.ok.2.2.1
  obtain ⟨y, m, na⟩ := b
  obtain ⟨iy, ly, on, m3, m4, oa, c15, z⟩ := lineB_is h eb
  dsimp only at iy ly on m3 m4 oa c15 z
  obtain ⟨y2, e3, e4⟩ := bnd_inr e2
  cases e4
  obtain ⟨i2, l2⟩ := pS_up iy e3
  have n : ∀ j, j ≠ 3 → un m 3 (m 3 + 1) j = m j := fun j h0 => by rw [un_n h0]
  refine ⟨i2, by dsimp only; omega, on.lines (by show m 3 + 1 ≤ 700; omega) (by show m 3 + 1 ≠ 0; omega), ?_, ?_, ?_, ?_, fun v q1 q2 => ?_⟩
  · dsimp only; rw [un_s, m3]
  · dsimp only; rw [n 4 (by omega)]; exact m4
  · dsimp only; rw [n 2 (by omega)]; exact oa
  · dsimp only; rw [ctc_un (by omega)]; exact c15
  · dsimp only at q1 ⊢
    rw [n 2 (by omega)] at q1
    rw [n _ (by omega), n _ (by omega)]; exact z v q1 q2
/-- every line before the n-th goes on -/
def Pn (t : Nat → Nat) (T n : Nat) : Prop := ∀ i, i < n → ∃ s, lnP t T i = .inr s ∧ s.1.2.2 ≠ 0
def Fin_ (r : Rs St) : Prop := match r with
  | .inl _ => True
  | .inr s => s.1.2.2 = 0
theorem lnP_is {t : Nat → Nat} {T : Nat} (hT : T ≤ 700) : ∀ n, Pn t T n → ∀ s, lnP t T n = .inr s → ISb t T n n s := by
  intro n
  induction n with
  | zero =>
    intro _ s e
    cases e
    refine ⟨(tn_isT t T (Nat.zero_le _)).1, Nat.zero_le _, OkN.zero, rfl, rfl, ⟨by dsimp only; omega, fun v hv => absurd hv (by dsimp only; omega)⟩, ?_, fun v _ _ => ⟨rfl, rfl⟩⟩
    dsimp only
    rw [ctc_zero]
    omega
  | succ n ih =>
    intro p s e
    obtain ⟨u, e1, k0⟩ := p n (by omega)
    rw [lnP_s, e1] at e
    exact lineP_is hT (ih (fun i hi => p i (by omega)) u e1) k0 e
theorem lnP_ends {t : Nat → Nat} {T : Nat} (hT : T ≤ 700) : ∃ n, n ≤ 700 ∧ Pn t T n ∧ Fin_ (lnP t T n) := by
  apply Classical.byContradiction
  intro no
  have all : ∀ n, n ≤ 701 → Pn t T n := by
    intro n
    induction n with
    | zero => intro _ i hi; omega
    | succ n ih =>
      intro hn i hi
      have pn := ih (by omega)
      by_cases q : i = n
      · rw [q]
        cases r : lnP t T n with
        | inl f => exact absurd ⟨n, by omega, pn, by rw [r]; trivial⟩ no
        | inr s =>
          refine ⟨s, rfl, fun k => no ⟨n, by omega, pn, ?_⟩⟩
          rw [r]
          exact k
      · exact pn i (by omega)
  obtain ⟨s, e, k0⟩ := all 701 (by omega) 700 (by omega)
  have h := lnP_is hT 700 (fun i hi => all 701 (by omega) i (by omega)) s e
  have le := h.2.1
  have lt := h.1.ok.2.2.2 k0
  have lT := h.1.ok.2.2.1
  omega
