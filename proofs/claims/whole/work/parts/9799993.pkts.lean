-- packets: what stands between calls
def TkD (h : Hp) (k n : Nat) (len L : Nat → Nat) (a : Ad) : Prop := (∀ i, i < n → h (k + 1) i = fr (a.2.2.1 i) ∧ h (k + 2) i = fr (a.2.2.2.1 i) ∧ h (k + 3) i = fr (a.2.2.2.2 i)) ∧ (∀ i, i < n → h (k + 4) i = nI (len i)) ∧ ∀ i, i < n → ∀ p, p < len i → h (k + 5) (4 * i + p) = nI (L (4 * i + p))
def OTk (h : Hp) (kt n : Nat) (len L : Nat → Nat) : Prop := h 0 4 = nI kt ∧ h 0 5 = nI (49 - kt) ∧ ce_isTold kt ∧ okL n len L ∧ h kt 0 = nI n ∧ TkD h kt n len L (bld len L n) ∧ h 68 29 = nI n ∧ LtM h n len L ∧ TkM h n (bld len L n)
def OT (h : Hp) : Prop := ∃ kt n len L, OTk h kt n len L
theorem OTk.eqv {h h' : Hp} {kt n : Nat} {len L : Nat → Nat} (c : OTk h kt n len L) (e4 : h' 0 4 = h 0 4) (e5 : h' 0 5 = h 0 5) (f : ∀ q, (20 < q ∧ q < 35) ∨ q = 86 ∨ q = 87 ∨ q = 90 ∨ q = 91 ∨ q = 92 → h' q = h q) (e29 : h' 68 29 = h 68 29) : OTk h' kt n len L := by
  obtain ⟨a1, a2, a3, a4, a5, ⟨b1, b2, b3⟩, a7, a8, a9⟩ := c
  have bn := told_le a3
  refine ⟨by rw [e4]; exact a1, by rw [e5]; exact a2, a3, a4, by rw [f kt (by omega)]; exact a5, ⟨fun i hi => ?_, fun i hi => ?_, fun i hi p hp => ?_⟩, by rw [e29]; exact a7, fun i hi => ?_, fun i hi => ?_⟩
  · rw [f (kt + 1) (by omega), f (kt + 2) (by omega), f (kt + 3) (by omega)]; exact b1 i hi
  · rw [f (kt + 4) (by omega)]; exact b2 i hi
  · rw [f (kt + 5) (by omega)]; exact b3 i hi p hp
  · rw [f 86 (by omega), f 87 (by omega)]; exact a8 i hi
  · rw [f 90 (by omega), f 91 (by omega), f 92 (by omega)]; exact a9 i hi
theorem OT.eqv {h h' : Hp} (c : OT h) (e4 : h' 0 4 = h 0 4) (e5 : h' 0 5 = h 0 5) (f : ∀ q, (20 < q ∧ q < 35) ∨ q = 86 ∨ q = 87 ∨ q = 90 ∨ q = 91 ∨ q = 92 → h' q = h q) (e29 : h' 68 29 = h 68 29) : OT h' := by
  obtain ⟨kt, n, len, L, o⟩ := c
  exact ⟨kt, n, len, L, o.eqv e4 e5 f e29⟩
theorem told_two {kn : Nat} (h : ce_isTold kn) : (kn = 21 ∧ ce_isTold (49 - kn)) ∨ (kn = 28 ∧ ce_isTold (49 - kn)) := by
  rcases h with rfl | rfl
  · exact Or.inl ⟨rfl, Or.inr rfl⟩
  · exact Or.inr ⟨rfl, Or.inl rfl⟩
/-- what packets leave as it was -/
def FrZ (h h' : Hp) : Prop := (∀ q, (6 < q ∧ q < 21) ∨ (34 < q ∧ q < 68) ∨ q = 69 ∨ q = 71 → h' q = h q) ∧ ∀ j, j ≠ 4 → j ≠ 5 → h' 0 j = h 0 j
theorem q_packets {T F : Nat} {t : Nat → Nat} {h : Hp} (hF : 1000 ≤ F) (tp : TP h T t) (ot : OT h) : Ev (f11_packets F h) (fun o => Ev (f12_packets F o.2) (fun p => o.1 = p.1 ∧ FrZ h p.2 ∧ OT p.2 ∧ TP p.2 0 t)) := by
  obtain ⟨kt, n0, len0, L0, ok⟩ := ot
  have ok' := ok
  obtain ⟨a1, a2, hkt, -, -, -, -, -, -⟩ := ok
  have two := told_two hkt
  have hkd : ce_isTold (49 - kt) := by rcases two with q | q <;> exact q.2
  have n1 : ¬ (nI 1 : Int32) = 0 := by decide
  have hT := tp.1
  obtain ⟨n, hn, pn, fn⟩ := ptP_ends (t := t) hT
  obtain ⟨kd, ekd⟩ : ∃ kd, kd = 49 - kt := ⟨_, rfl⟩
  rw [← ekd] at a2 hkd
  have bt := told_le hkt
  have bd := told_le hkd
  have dis : kd + 6 < kt ∨ kt + 6 < kd := by
    rcases two with q | q
    · right; omega
    · left; omega
  unfold f11_packets
  refine Ev.nm ?_
  rw [a2, ni_cl (by omega)]
  refine Ev.grd hkd (Ev.bind (y_pread hkd tp.tc hn pn fn hF) (fun h1 q1 => Ev.nm ?_))
  obtain ⟨f1, c1⟩ := q1
  obtain ⟨h2, eh2⟩ : ∃ h2, h2 = hp_up h1 2 1 (0 : Int32) := ⟨_, rfl⟩
  rw [← eh2]
  have k2 : ∀ q, q ≠ 2 → h2 q = h1 q := fun q hq => by rw [eh2]; exact up_kk _ _ _ _ _ hq
  have s21 : h2 2 1 = nI 0 := by rw [eh2, up_s]; rfl
  clear eh2
  have kk : ∀ q, q ≠ 1 → q ≠ 2 → (q < kd ∨ kd + 6 < q) → h2 q = h q := fun q a b d => by rw [k2 q b, f1 q a d]
  cases r : pfin (ptP t T n) with
  | inl f =>
    rw [r] at c1
    have cr : CR h1 T t (.inl f) := c1
    have b4 : ¬ h2 1 4 = 0 := by rw [k2 1 (by omega)]; exact cr.bad
    rw [x_fine1 b4]
    refine ev_bs (Ev.pos rfl (Ev.some ?_))
    dsimp only
    have tm2 : TM h2 T t := by unfold TM; rw [kk 68 (by omega) (by omega) (by omega), kk 72 (by omega) (by omega) (by omega)]; exact tp.tm
    refine Ev.mono (z_packets tm2 hn pn fn hF) (fun p q => ?_)
    obtain ⟨⟨w1, w2, w3⟩, p4, alt⟩ := q
    rcases alt with ⟨s, es, -⟩ | ⟨f', ef, p1, g1, g29, p5, p6⟩
    · rw [r] at es; cases es
    · rw [r] at ef
      cases ef
      have kp : ∀ q, q ≠ 1 → q ≠ 2 → (q < kd ∨ kd + 6 < q) → q ≠ 68 → q ≠ 88 → q ≠ 89 → q ≠ 93 → p.2 q = h q := fun q a b d e a' b' d' => by rw [g1 q e a' b' d', kk q a b d]
      have low : ∀ q, q < 68 → p.2 q = h2 q := fun q hq => g1 q (by omega) (by omega) (by omega) (by omega)
      refine ⟨p1.symm, ⟨fun q hq => kp q (by omega) (by omega) (by omega) (by omega) (by omega) (by omega) (by omega), fun j _ _ => by rw [kp 0 (by omega) (by omega) (by omega) (by omega) (by omega) (by omega) (by omega)]⟩, ⟨kt, n0, len0, L0, ?_⟩, ?_⟩
      · -- the told ones are untouched: kt's cells, and the reference's
        obtain ⟨b1, b2, b3, b4', b5, ⟨d1, d2, d3⟩, b7, b8, b9⟩ := ok'
        have c0 : ∀ q, kt ≤ q → q ≤ kt + 6 → p.2 q = h q := fun q x y => kp q (by omega) (by omega) (by omega) (by omega) (by omega) (by omega) (by omega)
        have z0 : p.2 0 = h 0 := kp 0 (by omega) (by omega) (by omega) (by omega) (by omega) (by omega) (by omega)
        refine ⟨by rw [z0]; exact b1, by rw [z0]; exact b2, b3, b4', by rw [c0 kt (by omega) (by omega)]; exact b5, ⟨fun i hi => ?_, fun i hi => ?_, fun i hi p' hp' => ?_⟩, ?_, fun i hi => ?_, fun i hi => ?_⟩
        · rw [c0 (kt + 1) (by omega) (by omega), c0 (kt + 2) (by omega) (by omega), c0 (kt + 3) (by omega) (by omega)]; exact d1 i hi
        · rw [c0 (kt + 4) (by omega) (by omega)]; exact d2 i hi
        · rw [c0 (kt + 5) (by omega) (by omega)]; exact d3 i hi p' hp'
        · rw [g29, kk 68 (by omega) (by omega) (by omega)]; exact b7
        · rw [kp 86 (by omega) (by omega) (by omega) (by omega) (by omega) (by omega) (by omega), kp 87 (by omega) (by omega) (by omega) (by omega) (by omega) (by omega) (by omega)]; exact b8 i hi
        · rw [kp 90 (by omega) (by omega) (by omega) (by omega) (by omega) (by omega) (by omega), kp 91 (by omega) (by omega) (by omega) (by omega) (by omega) (by omega) (by omega), kp 92 (by omega) (by omega) (by omega) (by omega) (by omega) (by omega) (by omega)]; exact b9 i hi
      · refine ⟨by omega, ?_, p4, fun i hi => absurd hi (by omega), ?_, ?_⟩
        · rw [low 2 (by omega)]; exact s21
        · rw [low 1 (by omega), k2 1 (by omega), p5]; exact cr.2.1
        · rw [low 1 (by omega), k2 1 (by omega), p6]; exact cr.2.2.2.2
  | inr s =>
    rw [r] at c1
    obtain ⟨cr, e0, e8, tk⟩ := c1
    have g4 : h2 1 4 = nI 0 := by rw [k2 1 (by omega)]; exact cr.1.2.2.1
    rw [x_fine0 g4]
    refine ev_bs (Ev.neg n1 (Ev.nm ?_))
    dsimp only
    have z0 : h2 0 = h 0 := kk 0 (by omega) (by omega) (by omega)
    rw [z0, a1, ni_cl (by omega)]
    refine Ev.grd hkt (Ev.nm ?_)
    rw [a2, ni_cl (by omega)]
    refine Ev.grd hkd (Ev.nm (Ev.nm (Ev.nm ?_)))
    obtain ⟨h3, eh3⟩ : ∃ h3, h3 = hp_up (hp_up h2 0 4 (nI kd)) 0 5 (nI kt) := ⟨_, rfl⟩
    rw [← eh3]
    have k3 : ∀ q, q ≠ 0 → h3 q = h2 q := fun q a => by rw [eh3, up_kk _ _ _ _ _ a, up_kk _ _ _ _ _ a]
    have s05 : h3 0 5 = nI kt := by rw [eh3, up_s]
    have s04 : h3 0 4 = nI kd := by rw [eh3, up_j _ _ _ _ _ (by omega), up_s]
    have s0j : ∀ j, j ≠ 4 → j ≠ 5 → h3 0 j = h 0 j := fun j a b => by rw [eh3, up_j _ _ _ _ _ b, up_j _ _ _ _ _ a, z0]
    clear eh3
    rw [s04, ni_cl (by omega)]
    refine Ev.grd hkd (Ev.some ?_)
    dsimp only
    have k4 : ∀ q, q ≠ 0 → q ≠ 1 → q ≠ 2 → (q < kd ∨ kd + 6 < q) → h3 q = h q := fun q a b d e => by rw [k3 q a, kk q b d e]
    have kdd : ∀ q, kd ≤ q → q ≤ kd + 6 → h3 q = h1 q := fun q a b => by rw [k3 q (by omega), k2 q (by omega)]
    have tm3 : TM h3 T t := by unfold TM; rw [k4 68 (by omega) (by omega) (by omega) (by omega), k4 72 (by omega) (by omega) (by omega) (by omega)]; exact tp.tm
    refine Ev.mono (z_packets tm3 hn pn fn hF) (fun p q => ?_)
    obtain ⟨⟨w1, w2, w3⟩, p4, alt⟩ := q
    rcases alt with ⟨s', es, oks, p1, p29, lm, tkm, p5, p6⟩ | ⟨f', ef, -⟩
    · rw [r] at es
      cases es
      have low : ∀ q, q < 68 → p.2 q = h3 q := fun q hq => w1 q (by omega) (by omega)
      obtain ⟨t7, t6, t1, t4, t5⟩ := tk
      have d0 : ∀ q, kd ≤ q → q ≤ kd + 6 → p.2 q = h1 q := fun q x y => by rw [low q (by omega), kdd q x y]
      refine ⟨by rw [p1, kdd kd (by omega) (by omega)]; exact e0, ⟨fun q hq => ?_, fun j a b => ?_⟩, ⟨kd, s.2.1, s.2.2.2.1, s.2.2.2.2, ?_, ?_, hkd, oks, ?_, ⟨fun i hi => ?_, fun i hi => ?_, fun i hi p' hp' => ?_⟩, p29, lm, tkm⟩, ?_⟩
      · rw [w1 q (by omega) (by omega), k4 q (by omega) (by omega) (by omega) (by omega)]
      · rw [low 0 (by omega)]; exact s0j j a b
      · rw [low 0 (by omega)]; exact s04
      · rw [low 0 (by omega), s05]; congr 1; omega
      · rw [d0 kd (by omega) (by omega)]; exact e0
      · rw [d0 (kd + 1) (by omega) (by omega), d0 (kd + 2) (by omega) (by omega), d0 (kd + 3) (by omega) (by omega)]; exact t1 i hi
      · rw [d0 (kd + 4) (by omega) (by omega)]; exact t4 i hi
      · rw [d0 (kd + 5) (by omega) (by omega)]; exact t5 i hi p' hp'
      · refine ⟨by omega, ?_, p4, fun i hi => absurd hi (by omega), ?_, ?_⟩
        · rw [low 2 (by omega), k3 2 (by omega)]; exact s21
        · rw [low 1 (by omega), k3 1 (by omega), p5]; exact g4
        · rw [low 1 (by omega), k3 1 (by omega), k2 1 (by omega), p6]; exact cr.2
    · rw [r] at ef; cases ef
