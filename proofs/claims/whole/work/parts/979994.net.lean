-- net, in both
theorem RA.eqv {h h' : Hp} {m : Nat → Nat} {kn : Nat} {ms : Nat → Nat → Nat} (ra : RA h m kn ms) (e2 : h' 0 2 = h 0 2) (mn : MN h' m) (fn : ∀ q, kn ≤ q → q ≤ kn + 6 → h' q = h q) (fa : ∀ q, (34 < q ∧ q < 40) ∨ (43 < q ∧ q < 55) ∨ (61 < q ∧ q < 65) ∨ q = 71 → h' q = h q) : RA h' m kn ms := by
  obtain ⟨⟨a1, a2, a3, a4, a5, a6⟩, ⟨c1, c2, c3⟩, ps⟩ := ra
  refine ⟨⟨by rw [e2]; exact a1, a2, a3, mn, NetR.eqv' a2 a5 fn, ?_⟩, ⟨by rw [fa 35 (by omega)]; exact c1, c2, fun i hi => ?_⟩, fun i hi j hj => ?_⟩
  · rcases a6 with ⟨q1, q2, q3⟩ | l
    · exact Or.inl ⟨q1, by rw [fa 44 (by omega)]; exact q2, by rw [fa 44 (by omega)]; exact q3⟩
    · exact Or.inr (l.eqv (fun q hq => fa q (by omega)))
  · obtain ⟨d1, d2, d3, d4⟩ := c3 i hi
    refine ⟨d1, d2, d3, ?_⟩
    unfold ActR
    rw [fa 36 (by omega), fa 37 (by omega), fa 38 (by omega), fa 39 (by omega)]
    exact d4
  · rw [fa 71 (by omega)]; exact ps i hi j hj
theorem TP.tc {h : Hp} {T : Nat} {t : Nat → Nat} (tp : TP h T t) : TC h T t := ⟨tp.1, tp.2.1, fun i hi => ⟨(tp.2.2.2.1 i hi).1, (tp.2.2.2.1 i hi).2.2⟩⟩
theorem TP.tm {h : Hp} {T : Nat} {t : Nat → Nat} (tp : TP h T t) : TM h T t := ⟨tp.1, tp.2.2.1, fun i hi => ⟨(tp.2.2.2.1 i hi).1, (tp.2.2.2.1 i hi).2.1⟩⟩
/-- what a text leaves as it was: the packets that were told -/
def Fn (h h' : Hp) : Prop := (∀ c, ((20 < c ∧ c < 35) ∨ c = 86 ∨ c = 87 ∨ c = 90 ∨ c = 91 ∨ c = 92) → h' c = h c) ∧ (∀ j, j ≠ 2 → j ≠ 3 → h' 0 j = h 0 j) ∧ h' 68 29 = h 68 29
theorem net_two {kn : Nat} (h : ce_isNet kn) : (kn = 7 ∧ ce_isNet (21 - kn)) ∨ (kn = 14 ∧ ce_isNet (21 - kn)) := by
  rcases h with rfl | rfl
  · exact Or.inl ⟨rfl, Or.inr rfl⟩
  · exact Or.inr ⟨rfl, Or.inl rfl⟩
theorem q_net {T F : Nat} {t : Nat → Nat} {h : Hp} {m : Nat → Nat} {kn : Nat} {ms : Nat → Nat → Nat} (hF : 1000 ≤ F) (ra : RA h m kn ms) (tp : TP h T t) (e3 : h 0 3 = nI (21 - kn)) : Ev (f11_net F h) (fun o => Ev (f12_net F o.2) (fun p => o.1 = p.1 ∧ Fn h p.2 ∧ ∃ m' kn' ms', RA p.2 m' kn' ms' ∧ p.2 0 3 = nI (21 - kn') ∧ TP p.2 0 t)) := by
  have hkn := ra.1.2.1
  have bn := net_le hkn
  have two := net_two hkn
  have hkd : ce_isNet (21 - kn) := by rcases two with q | q <;> exact q.2
  have n1 : ¬ (nI 1 : Int32) = 0 := by decide
  have mn0 : MN h m := ra.1.2.2.2.1
  have h02 : h 0 2 = nI kn := ra.1.1
  have hT := tp.1
  obtain ⟨n, hn, pn, fn⟩ := lnP_ends (t := t) hT
  obtain ⟨kd, ekd⟩ : ∃ kd, kd = 21 - kn := ⟨_, rfl⟩
  rw [← ekd] at e3 hkd
  have bd := net_le hkd
  have dis : kd + 6 < kn ∨ kn + 6 < kd := by
    rcases two with q | q
    · right; omega
    · left; omega
  unfold f11_net
  refine Ev.nm ?_
  rw [e3, ni_cl (by omega)]
  refine Ev.grd hkd (Ev.bind (y_read hkd tp.tc hn pn fn hF) (fun h1 q1 => Ev.nm ?_))
  obtain ⟨f1, c1⟩ := q1
  obtain ⟨h2, eh2⟩ : ∃ h2, h2 = hp_up h1 2 1 (0 : Int32) := ⟨_, rfl⟩
  rw [← eh2]
  have k2 : ∀ q, q ≠ 2 → h2 q = h1 q := fun q hq => by rw [eh2]; exact up_kk _ _ _ _ _ hq
  have s21 : h2 2 1 = nI 0 := by rw [eh2, up_s]; rfl
  clear eh2
  have kk : ∀ q, q ≠ 1 → q ≠ 2 → q ≠ 5 → q ≠ 6 → (q < kd ∨ kd + 6 < q) → h2 q = h q := fun q a b d e g => by rw [k2 q b, f1 q a d e g]
  cases r : lnP t T n with
  | inl f =>
    rw [r] at c1
    have cr : CR h1 T t (.inl f) := c1
    have b4 : ¬ h2 1 4 = 0 := by rw [k2 1 (by omega)]; exact cr.bad
    rw [x_fine1 b4]
    refine ev_bs (Ev.pos rfl (Ev.some ?_))
    dsimp only
    have tm2 : TM h2 T t := by unfold TM; rw [kk 68 (by omega) (by omega) (by omega) (by omega) (by omega), kk 72 (by omega) (by omega) (by omega) (by omega) (by omega)]; exact tp.tm
    have mn2 : MN h2 m := fun j hj => by rw [kk 69 (by omega) (by omega) (by omega) (by omega) (by omega)]; exact mn0 j hj
    refine Ev.mono (z_net tm2 mn2 hn pn fn hF) (fun p q => ?_)
    obtain ⟨g1, g2, g3, alt⟩ := q
    rcases alt with ⟨s, es, -⟩ | ⟨f', ef, p1, mnp, p5, p6⟩
    · rw [r] at es; cases es
    · rw [r] at ef
      cases ef
      have kp : ∀ q, q ≠ 1 → q ≠ 2 → q ≠ 5 → q ≠ 6 → (q < kd ∨ kd + 6 < q) → q ≠ 68 → q ≠ 69 → q ≠ 70 → q ≠ 73 → q ≠ 74 → p.2 q = h q := fun q a b d e g a' b' d' e' g' => by rw [g1 q a' b' d' e' g', kk q a b d e g]
      refine ⟨p1.symm, ⟨fun c hc => kp c (by omega) (by omega) (by omega) (by omega) (by omega) (by omega) (by omega) (by omega) (by omega) (by omega), fun j _ _ => by rw [kp 0 (by omega) (by omega) (by omega) (by omega) (by omega) (by omega) (by omega) (by omega) (by omega) (by omega)], by rw [g2 29 (by omega), kk 68 (by omega) (by omega) (by omega) (by omega) (by omega)]⟩, m, kn, ms, ra.eqv (by rw [kp 0 (by omega) (by omega) (by omega) (by omega) (by omega) (by omega) (by omega) (by omega) (by omega) (by omega)]) mnp (fun q a b => kp q (by omega) (by omega) (by omega) (by omega) (by omega) (by omega) (by omega) (by omega) (by omega) (by omega)) (fun q hq => kp q (by omega) (by omega) (by omega) (by omega) (by omega) (by omega) (by omega) (by omega) (by omega) (by omega)), ?_, ?_⟩
      · rw [kp 0 (by omega) (by omega) (by omega) (by omega) (by omega) (by omega) (by omega) (by omega) (by omega) (by omega), ← ekd]; exact e3
      · refine ⟨by omega, ?_, g3, fun i hi => absurd hi (by omega), ?_, ?_⟩
        · rw [g1 2 (by omega) (by omega) (by omega) (by omega) (by omega)]; exact s21
        · rw [g1 1 (by omega) (by omega) (by omega) (by omega) (by omega), k2 1 (by omega), p5]; exact cr.2.1
        · rw [g1 1 (by omega) (by omega) (by omega) (by omega) (by omega), k2 1 (by omega), p6]; exact cr.2.2.2.2
  | inr s =>
    rw [r] at c1
    obtain ⟨cr, nr, ca⟩ := c1
    have is := lnP_is hT n pn s r
    obtain ⟨-, -, on, -, m4, -, -, -⟩ := is
    have g4 : h2 1 4 = nI 0 := by rw [k2 1 (by omega)]; exact cr.1.2.2.1
    rw [x_fine0 g4]
    refine ev_bs (Ev.neg n1 (Ev.nm ?_))
    dsimp only
    have z0 : h2 0 = h 0 := kk 0 (by omega) (by omega) (by omega) (by omega) (by omega)
    rw [z0, h02, ni_cl (by omega)]
    refine Ev.grd hkn (Ev.nm ?_)
    rw [e3, ni_cl (by omega)]
    refine Ev.grd hkd (Ev.nm (Ev.nm (Ev.nm ?_)))
    obtain ⟨h3, eh3⟩ : ∃ h3, h3 = hp_up (hp_up (hp_up h2 0 2 (nI kd)) 0 3 (nI kn)) 35 0 (0 : Int32) := ⟨_, rfl⟩
    rw [← eh3]
    have k3 : ∀ q, q ≠ 0 → q ≠ 35 → h3 q = h2 q := fun q a b => by rw [eh3, up_kk _ _ _ _ _ b, up_kk _ _ _ _ _ a, up_kk _ _ _ _ _ a]
    have s35 : h3 35 0 = nI 0 := by rw [eh3, up_s]; rfl
    have s02 : h3 0 2 = nI kd := by rw [eh3, up_k _ _ _ _ _ _ (by omega), up_j _ _ _ _ _ (by omega), up_s]
    have s03 : h3 0 3 = nI kn := by rw [eh3, up_k _ _ _ _ _ _ (by omega), up_s]
    have s0j : ∀ j, j ≠ 2 → j ≠ 3 → h3 0 j = h 0 j := fun j a b => by rw [eh3, up_k _ _ _ _ _ _ (by omega), up_j _ _ _ _ _ b, up_j _ _ _ _ _ a, z0]
    clear eh3
    have nr3 : NetR h3 kd s.2.1 := nr.eqv' (h' := h3) hkd (fun q a b => by rw [k3 q (by omega) (by omega), k2 q (by omega)])
    refine Ev.bind (x_refresh s02 hkd on nr3 hF) (fun h4 q4 => Ev.nm ?_)
    obtain ⟨f4, lv⟩ := q4
    rw [f4 0 (by omega), s02, ni_cl (by omega)]
    refine Ev.grd hkd (Ev.some ?_)
    dsimp only
    have nr4 : NetR h4 kd s.2.1 := nr3.eqv' (h' := h4) hkd (fun q a b => f4 q (by omega))
    have k4 : ∀ q, q ≠ 0 → q ≠ 1 → q ≠ 2 → q ≠ 5 → q ≠ 6 → (q < kd ∨ kd + 6 < q) → q ≠ 35 → (q < 40 ∨ 64 < q) → h4 q = h q := fun q a b d e g i j k => by rw [f4 q k, k3 q a j, kk q b d e g i]
    have tm4 : TM h4 T t := by unfold TM; rw [k4 68 (by omega) (by omega) (by omega) (by omega) (by omega) (by omega) (by omega) (by omega), k4 72 (by omega) (by omega) (by omega) (by omega) (by omega) (by omega) (by omega) (by omega)]; exact tp.tm
    have mn4 : MN h4 m := fun j hj => by rw [k4 69 (by omega) (by omega) (by omega) (by omega) (by omega) (by omega) (by omega) (by omega)]; exact mn0 j hj
    refine Ev.mono (z_net tm4 mn4 hn pn fn hF) (fun p q => ?_)
    obtain ⟨g1, g2, g3, alt⟩ := q
    rcases alt with ⟨s', es, p1, mnp, p5, p6⟩ | ⟨f', ef, -⟩
    · rw [r] at es
      cases es
      have low : ∀ q, q < 68 → p.2 q = h4 q := fun q hq => g1 q (by omega) (by omega) (by omega) (by omega) (by omega)
      refine ⟨by rw [p1, nr4.2.1], ⟨fun c hc => ?_, fun j a b => ?_, ?_⟩, s.2.1, kd, fun _ => s.2.1, ⟨⟨?_, hkd, on, mnp, nr4.eqv' (h' := p.2) hkd (fun q a b => low q (by omega)), Or.inr (lv.eqv (fun q hq => low q (by omega)))⟩, ⟨?_, rfl, fun i hi => absurd hi (by omega)⟩, fun i hi => absurd hi (by omega)⟩, ?_, ?_⟩
      · rw [g1 c (by omega) (by omega) (by omega) (by omega) (by omega), k4 c (by omega) (by omega) (by omega) (by omega) (by omega) (by omega) (by omega) (by omega)]
      · rw [low 0 (by omega), f4 0 (by omega)]; exact s0j j a b
      · rw [g2 29 (by omega), k4 68 (by omega) (by omega) (by omega) (by omega) (by omega) (by omega) (by omega) (by omega)]
      · rw [low 0 (by omega), f4 0 (by omega)]; exact s02
      · rw [low 35 (by omega), f4 35 (by omega), s35, m4]
      · rw [low 0 (by omega), f4 0 (by omega), s03]
        congr 1
        omega
      · refine ⟨by omega, ?_, g3, fun i hi => absurd hi (by omega), ?_, ?_⟩
        · rw [low 2 (by omega), f4 2 (by omega), k3 2 (by omega) (by omega)]; exact s21
        · rw [low 1 (by omega), f4 1 (by omega), k3 1 (by omega) (by omega), p5]; exact g4
        · rw [low 1 (by omega), f4 1 (by omega), k3 1 (by omega) (by omega), k2 1 (by omega), p6]; exact cr.2
    · rw [r] at ef; cases ef
