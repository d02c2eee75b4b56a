-- the cable line: as a pure step, and in the class
noncomputable def nf (t : Nat → Nat) (n : Nat) (na : Nat → Nat × Nat) (r : Rs Tok) : Nat := match r with
  | .inl _ => 0
  | .inr x => fi (nq t x na) n
noncomputable def pK (t : Nat → Nat) (T n : Nat) (na : Nat → Nat × Nat) (no : Nat) (x : Tok) : Rs Tok := if x.2.2 = 1 then (if fi (nq t x na) n = 0 ∨ fi (nq t x na) n = no then .inl (2, x.1) else .inr (tn t T x.2.1)) else .inl (1, x.1)
noncomputable def pP (t : Nat → Nat) (T : Nat) (m : Nat → Nat) (v : Nat) (x : Tok) : Rs Tok := if x.2.2 = 2 ∧ vR t x.1 (x.2.1 - x.1) < m (5 + v) ∧ og m (4 * v + vR t x.1 (x.2.1 - x.1)) ≠ 0 then .inl (2, x.1) else pN t T 0 (m (5 + v) - 1) x
theorem pK_inr {t : Nat → Nat} {T n no : Nat} {na : Nat → Nat × Nat} {x y : Tok} (e : pK t T n na no x = .inr y) : x.2.2 = 1 ∧ fi (nq t x na) n ≠ 0 ∧ fi (nq t x na) n ≠ no ∧ fi (nq t x na) n ≤ n ∧ y = tn t T x.2.1 := by
  unfold pK at e
  by_cases k1 : x.2.2 = 1
  · rw [if_pos k1] at e
    by_cases z : fi (nq t x na) n = 0 ∨ fi (nq t x na) n = no
    · rw [if_pos z] at e; cases e
    · rw [if_neg z] at e
      have fl : fi (nq t x na) n ≤ n := by
        rcases fi_spec (nq t x na) n with ⟨a, b⟩ | ⟨a, b, d, e⟩ <;> omega
      cases e
      exact ⟨k1, fun q => z (Or.inl q), fun q => z (Or.inr q), fl, rfl⟩
  · rw [if_neg k1] at e; cases e
theorem pP_inr {t : Nat → Nat} {T v : Nat} {m : Nat → Nat} {x y : Tok} (hp : 1 ≤ m (5 + v)) (e : pP t T m v x = .inr y) : vR t x.1 (x.2.1 - x.1) < m (5 + v) ∧ og m (4 * v + vR t x.1 (x.2.1 - x.1)) = 0 ∧ pN t T 0 (m (5 + v) - 1) x = .inr y := by
  unfold pP at e
  by_cases z : x.2.2 = 2 ∧ vR t x.1 (x.2.1 - x.1) < m (5 + v) ∧ og m (4 * v + vR t x.1 (x.2.1 - x.1)) ≠ 0
  · rw [if_pos z] at e; cases e
  · rw [if_neg z] at e
    have pv := pN_v e
    have k2 : x.2.2 = 2 := by
      unfold pN at e
      by_cases k2 : x.2.2 = 2
      · exact k2
      · rw [if_neg k2] at e; cases e
    refine ⟨by omega, ?_, e⟩
    apply Classical.byContradiction
    intro q
    exact z ⟨k2, by omega, q⟩
theorem pK_mo {t : Nat → Nat} {T n no : Nat} {na : Nat → Nat × Nat} {x : Tok} (h : isT t T x) : Mo t T x (pK t T n na no x) := fun y hy => by
  obtain ⟨a, b, c, d, e⟩ := pK_inr hy
  rw [e]
  exact tn_is h
theorem pP_mo {t : Nat → Nat} {T v : Nat} {m : Nat → Nat} {x : Tok} (h : isT t T x) : Mo t T x (pP t T m v x) := by
  unfold pP
  by_cases z : x.2.2 = 2 ∧ vR t x.1 (x.2.1 - x.1) < m (5 + v) ∧ og m (4 * v + vR t x.1 (x.2.1 - x.1)) ≠ 0
  · rw [if_pos z]; exact Mo.inl
  · rw [if_neg z]; exact pN_mo h
noncomputable def kV (t : Nat → Nat) (T : Nat) (m : Nat → Nat) (na : Nat → Nat × Nat) (x : Tok) : Nat := fi (nq t (tn t T x.2.1) na) (m 2) - 1
noncomputable def cr1 (t : Nat → Nat) (T : Nat) (m : Nat → Nat) (na : Nat → Nat × Nat) (x : Tok) : Rs Tok := pK t T (m 2) na 0 (tn t T x.2.1)
noncomputable def cr2 (t : Nat → Nat) (T : Nat) (m : Nat → Nat) (na : Nat → Nat × Nat) (x : Tok) : Rs Tok := bnd (cr1 t T m na x) (pP t T m (kV t T m na x))
noncomputable def cr3 (t : Nat → Nat) (T : Nat) (m : Nat → Nat) (na : Nat → Nat × Nat) (x : Tok) : Rs Tok := bnd (cr2 t T m na x) (pK t T (m 2) na (kV t T m na x + 1))
noncomputable def kW (t : Nat → Nat) (T : Nat) (m : Nat → Nat) (na : Nat → Nat × Nat) (x : Tok) : Nat := nf t (m 2) na (cr2 t T m na x) - 1
noncomputable def cr4 (t : Nat → Nat) (T : Nat) (m : Nat → Nat) (na : Nat → Nat × Nat) (x : Tok) : Rs Tok := bnd (cr3 t T m na x) (pP t T m (kW t T m na x))
noncomputable def cr5 (t : Nat → Nat) (T : Nat) (m : Nat → Nat) (na : Nat → Nat × Nat) (x : Tok) : Rs Tok := bnd (cr4 t T m na x) (pW t T 8)
noncomputable def cr6 (t : Nat → Nat) (T : Nat) (m : Nat → Nat) (na : Nat → Nat × Nat) (x : Tok) : Rs Tok := bnd (cr5 t T m na x) (pN t T 1 9)
noncomputable def cE (t : Nat → Nat) (T : Nat) (m : Nat → Nat) (na : Nat → Nat × Nat) (x : Tok) : Nat := 4 * kV t T m na x + vN t (cr1 t T m na x)
noncomputable def cG (t : Nat → Nat) (T : Nat) (m : Nat → Nat) (na : Nat → Nat × Nat) (x : Tok) : Nat := 4 * kW t T m na x + vN t (cr3 t T m na x)
noncomputable def cTl (t : Nat → Nat) (T : Nat) (m : Nat → Nat) (na : Nat → Nat × Nat) (x x6 : Tok) : Rs St := .inr (x6, lym m (cE t T m na x) (cG t T m na x) (vN t (cr5 t T m na x)), na)
noncomputable def ctc (m : Nat → Nat) : Nat := ct (fun e => bo (og m e ≠ 0)) 40 / 2
noncomputable def cableP (t : Nat → Nat) (T : Nat) (x : Tok) (m : Nat → Nat) (na : Nat → Nat × Nat) : Rs St := if ctc m < 15 then bnd (cr6 t T m na x) (cTl t T m na x) else .inl (3, x.1)
theorem ctc_le (m : Nat → Nat) : ctc m ≤ 20 := by
  have := ct_le (fun e => bo (og m e ≠ 0)) 40
  unfold ctc
  omega
/-- what stands where the cable is told -/
theorem cab_ok {t : Nat → Nat} {T : Nat} {m : Nat → Nat} {na : Nat → Nat × Nat} {x x6 : Tok} (on : OkN m) (e6 : cr6 t T m na x = .inr x6) : ∃ y1 y2 y3 y4 y5, cr1 t T m na x = .inr y1 ∧ cr2 t T m na x = .inr y2 ∧ cr3 t T m na x = .inr y3 ∧ cr4 t T m na x = .inr y4 ∧ cr5 t T m na x = .inr y5 ∧ pP t T m (kV t T m na x) y1 = .inr y2 ∧ pK t T (m 2) na (kV t T m na x + 1) y2 = .inr y3 ∧ pP t T m (kW t T m na x) y3 = .inr y4 ∧ pN t T 1 9 y5 = .inr x6 ∧ kV t T m na x < m 2 ∧ kW t T m na x < m 2 ∧ kW t T m na x = fi (nq t y2 na) (m 2) - 1 ∧ kW t T m na x ≠ kV t T m na x ∧ vN t (cr1 t T m na x) < m (5 + kV t T m na x) ∧ vN t (cr3 t T m na x) < m (5 + kW t T m na x) ∧ og m (cE t T m na x) = 0 ∧ og m (cG t T m na x) = 0 ∧ 1 ≤ vN t (cr5 t T m na x) ∧ vN t (cr5 t T m na x) ≤ 9 := by
  obtain ⟨y5, e5, p5⟩ := bnd_inr e6
  obtain ⟨y4, e4, p4⟩ := bnd_inr e5
  obtain ⟨y3, e3, p3⟩ := bnd_inr e4
  obtain ⟨y2, e2, p2⟩ := bnd_inr e3
  obtain ⟨y1, e1, p1⟩ := bnd_inr e2
  obtain ⟨a1, a2, a3, a4, a5⟩ := pK_inr e1
  have hv : kV t T m na x < m 2 := by unfold kV; omega
  obtain ⟨b1, b2, b3⟩ := pP_inr (on.1.2.2.1 _ hv).1 p1
  obtain ⟨c1, c2, c3, c4, c5⟩ := pK_inr p2
  have ew : kW t T m na x = fi (nq t y2 na) (m 2) - 1 := by unfold kW; rw [e2]; rfl
  have hw : kW t T m na x < m 2 := by omega
  obtain ⟨d1, d2, d3⟩ := pP_inr (on.1.2.2.1 _ hw).1 p3
  have n1 : vN t (cr1 t T m na x) = vR t y1.1 (y1.2.1 - y1.1) := by rw [e1]; rfl
  have n3 : vN t (cr3 t T m na x) = vR t y3.1 (y3.2.1 - y3.1) := by rw [e3]; rfl
  have n5 : vN t (cr5 t T m na x) = vR t y5.1 (y5.2.1 - y5.1) := by rw [e5]; rfl
  have l5 := pN_v p5
  refine ⟨y1, y2, y3, y4, y5, e1, e2, e3, e4, e5, p1, p2, p3, p5, hv, hw, ew, by omega, by omega, by omega, ?_, ?_, by omega, by omega⟩
  · unfold cE; rw [n1]; exact b2
  · unfold cG; rw [n3]; exact d2
theorem cab_lym {t : Nat → Nat} {T : Nat} {m : Nat → Nat} {na : Nat → Nat × Nat} {x x6 : Tok} (on : OkN m) (e6 : cr6 t T m na x = .inr x6) : cE t T m na x < 40 ∧ cG t T m na x < 40 ∧ cE t T m na x ≠ cG t T m na x ∧ OkN (lym m (cE t T m na x) (cG t T m na x) (vN t (cr5 t T m na x))) ∧ Pg m (lym m (cE t T m na x) (cG t T m na x) (vN t (cr5 t T m na x))) (cE t T m na x) ∧ og (lym m (cE t T m na x) (cG t T m na x) (vN t (cr5 t T m na x))) (cE t T m na x) = cG t T m na x + 1 ∧ lym m (cE t T m na x) (cG t T m na x) (vN t (cr5 t T m na x)) (85 + cE t T m na x) = vN t (cr5 t T m na x) := by
  obtain ⟨y1, y2, y3, y4, y5, -, -, -, -, -, -, -, -, -, hv, hw, -, nvw, hp, hq, o1, o2, l1, l9⟩ := cab_ok on e6
  have h2 := on.1.2.1
  have pv := (on.1.2.2.1 _ hv).2
  have pw := (on.1.2.2.1 _ hw).2
  have ee : cE t T m na x = 4 * kV t T m na x + vN t (cr1 t T m na x) := rfl
  have eg : cG t T m na x = 4 * kW t T m na x + vN t (cr3 t T m na x) := rfl
  have d1 : cE t T m na x / 4 = kV t T m na x := by omega
  have d2 : cG t T m na x / 4 = kW t T m na x := by omega
  have r1 : cE t T m na x % 4 = vN t (cr1 t T m na x) := by omega
  have r2 : cG t T m na x % 4 = vN t (cr3 t T m na x) := by omega
  refine ⟨by omega, by omega, by omega, ?_⟩
  exact okn_lym on (by omega) (by omega) o1 o2 (by omega) (by omega) (by omega) (by rw [d1, r1]; exact hp) (by rw [d2, r2]; exact hq) l1 l9
theorem y_known {T kn F n no : Nat} {t : Nat → Nat} {h : Hp} {r : Rs Tok} {na : Nat → Nat × Nat} {x3 : Int32} (c : CR h T t r) (oa : okA T n na) (ca : CA h n na) (h3 : h kn 3 = nI n) (hno : no ≤ 10) (hx : ∀ x, r = .inr x → x3 = fr no) (hF : 1000 ≤ F) : Ev (f8_takeKnownName F kn x3 h) (fun o => FrK h o.2 ∧ CR o.2 T t (bnd r (pK t T n na no)) ∧ ∀ x y, r = .inr x → pK t T n na no x = .inr y → o.1 = nI (fi (nq t x na) n - 1)) := by
  unfold f8_takeKnownName
  cases r with
  | inl f =>
    rw [x_fine1 c.bad]
    exact ev_bs (Ev.pos rfl (Ev.some ⟨FrK.refl _, c, fun x y q => by cases q⟩))
  | inr x =>
    have c0 := c.1
    have kl := c0.2.2.2.2.2.1
    have hn := oa.1
    have fl : fi (nq t x na) n ≤ n := by
      rcases fi_spec (nq t x na) n with ⟨a, b⟩ | ⟨a, b, d, e⟩ <;> omega
    rw [hx x rfl, x_fine0 c0.2.2.1]
    refine ev_bs (Ev.neg (by decide : ¬ (nI 1 : Int32) = 0) ?_)
    show Ev _ (fun (o : Int32 × Hp) => FrK h o.2 ∧ CR o.2 T t (pK t T n na no x) ∧ ∀ x' y, (Sum.inr x : Rs Tok) = .inr x' → pK t T n na no x' = .inr y → o.1 = nI (fi (nq t x' na) n - 1))
    dsimp only
    by_cases k1 : x.2.2 = 1
    · refine Ev.pos (by rw [c0.2.1.2.2, k1]; rfl) ?_
      rw [x_cnode c0 oa ca h3 hF]
      refine ev_bs ?_
      dsimp only
      have pe : pK t T n na no x = if fi (nq t x na) n = 0 ∨ fi (nq t x na) n = no then .inl (2, x.1) else .inr (tn t T x.2.1) := by unfold pK; rw [if_pos k1]
      generalize hq : fi (nq t x na) n = q at fl pe
      by_cases z : q = 0 ∨ q = no
      · rw [if_pos z] at pe
        have fin : Ev (Option.bind (f6_refuse F (2 : Int32) h) (fun o46 => some ((-1 : Int32), o46))) (fun o => FrK h o.2 ∧ CR o.2 T t (pK t T n na no x) ∧ ∀ x' y, (Sum.inr x : Rs Tok) = .inr x' → pK t T n na no x' = .inr y → o.1 = nI (fi (nq t x' na) n - 1)) := by
          refine Ev.bind (y_refuse (k := 2) c0 (by omega)) (fun h' q' => Ev.some ⟨q'.1, ?_, fun x' y' e w => ?_⟩)
          · rw [pe]; exact q'.2
          · cases e
            rw [pe] at w
            cases w
        by_cases z0 : q = 0
        · exact Ev.pos (by rw [z0]; rfl) fin
        · refine Ev.neg (by rw [mm_def, fr_mm (by omega)]; exact z0) (Ev.pos (by rw [fr_inj (by omega) (by omega)]; omega) fin)
      · rw [if_neg z] at pe
        refine Ev.neg (by rw [mm_def, fr_mm (by omega)]; omega) (Ev.neg (by rw [fr_inj (by omega) (by omega)]; omega) (Ev.bind (y_adv c0 c.2 hF) (fun h' q' => Ev.some ⟨q'.1, ?_, fun x' y' e _ => ?_⟩)))
        · rw [pe]; exact q'.2
        · cases e
          rw [hq]
          exact fr_p (by omega)
    · have pe : pK t T n na no x = .inl (1, x.1) := by unfold pK; rw [if_neg k1]
      refine Ev.neg (by rw [c0.2.1.2.2, l32_1, ni_eq (by omega) (by omega)]; exact k1) (Ev.bind (y_refuse (k := 1) c0 (by omega)) (fun h' q => Ev.some ⟨q.1, ?_, fun x' y' e w => ?_⟩))
      · rw [pe]; exact q.2
      · cases e
        rw [pe] at w
        cases w
theorem x_portTaken {m : Nat → Nat} {kn F v p : Nat} {h : Hp} (ok : OkG m) (cn : CNw h kn m) (hv : v < m 2) (hp : p < 2147483648) : f5_isPortTaken F kn (nI v) (nI p) h = some (if bo (p < m (5 + v) ∧ og m (4 * v + p) ≠ 0) = true then nI 1 else nI 0, h) := by
  have h2 := ok.2.1
  have p4 := (ok.2.2.1 v hv).2
  refine Ev.eq ?_
  unfold f5_isPortTaken
  rw [x_hasPort _ _ ok cn]
  refine ev_bs ?_
  dsimp only
  by_cases z : p < m (5 + v)
  · rw [isP_t hv z]
    refine Ev.neg (by decide) ?_
    rw [x_endOf]
    refine ev_bs ?_
    dsimp only
    rw [x_isCabled F kn _ (og m (4 * v + p)) h (by omega) (by have := og_le ok.2.2.2.1 (show 4 * v + p < 40 by omega); omega) (cn.2.2.2.1 _ (by omega))]
    refine ev_bs ?_
    dsimp only
    by_cases y : og m (4 * v + p) = 0
    · refine Ev.pos (by rw [if_pos y]; rfl) (Ev.some ?_)
      rw [bo_f (fun q => q.2 y)]
      rfl
    · refine Ev.neg (by rw [if_neg y]; decide) (Ev.some ?_)
      rw [bo_p ⟨z, y⟩]
      rfl
  · rw [isP_out ok hv (fun q hq e => by rw [ni_eq (by omega) (by omega)] at e; omega)]
    refine Ev.pos rfl (Ev.some ?_)
    rw [bo_f (fun q => z q.1)]
    rfl
theorem y_tnBad {T F : Nat} {t : Nat → Nat} {h : Hp} {f : Nat × Nat} {x y : Int32} (c : CR h T t (.inl f)) : f6_takeNumber F x y h = some (x, h) := by
  refine Ev.eq ?_
  unfold f6_takeNumber
  rw [x_fine1 c.bad]
  exact ev_bs (Ev.pos rfl (Ev.some rfl))
theorem y_port {T kn F v : Nat} {t : Nat → Nat} {h : Hp} {r : Rs Tok} {m : Nat → Nat} {x2 : Int32} (c : CR h T t r) (ok : OkG m) (cn : CNw h kn m) (hx : ∀ x, r = .inr x → x2 = nI v ∧ v < m 2) (hF : 1000 ≤ F) : Ev (f8_takeFreePort F kn x2 h) (fun o => FrK h o.2 ∧ CR o.2 T t (bnd r (pP t T m v)) ∧ ∀ x y, r = .inr x → pP t T m v x = .inr y → o.1 = nI (vR t x.1 (x.2.1 - x.1))) := by
  unfold f8_takeFreePort
  cases r with
  | inl f =>
    rw [x_fine1 c.bad]
    exact ev_bs (Ev.pos rfl (Ev.some ⟨FrK.refl _, c, fun x y q => by cases q⟩))
  | inr x =>
    obtain ⟨ex, hv⟩ := hx x rfl
    have c0 := c.1
    have kl := c0.2.2.2.2.2.1
    have h2 := ok.2.1
    have p4 := ok.2.2.1 v hv
    rw [ex, x_fine0 c0.2.2.1]
    refine ev_bs (Ev.neg (by decide : ¬ (nI 1 : Int32) = 0) ?_)
    show Ev _ (fun (o : Int32 × Hp) => FrK h o.2 ∧ CR o.2 T t (pP t T m v x) ∧ ∀ x' y, (Sum.inr x : Rs Tok) = .inr x' → pP t T m v x' = .inr y → o.1 = nI (vR t x'.1 (x'.2.1 - x'.1)))
    dsimp only
    rw [x_hasNode (nI v) h2 cn.2.1, isN_t hv]
    refine ev_bs (Ev.neg (by decide : ¬ (nI 1 : Int32) = 0) ?_)
    dsimp only
    have ports : h (kn + 1) v = nI (m (5 + v)) := cn.2.2.1 v hv
    have take : ¬ (x.2.2 = 2 ∧ vR t x.1 (x.2.1 - x.1) < m (5 + v) ∧ og m (4 * v + vR t x.1 (x.2.1 - x.1)) ≠ 0) → Ev (if ce_in (nI v) 10 = true then Option.bind (f6_takeNumber F (0 : Int32) (h (kn + 1) (nI v).toNatClampNeg - (1 : Int32)) h) (fun o52 => some (o52.1, o52.2)) else none) (fun o => FrK h o.2 ∧ CR o.2 T t (pP t T m v x) ∧ ∀ x' y, (Sum.inr x : Rs Tok) = .inr x' → pP t T m v x' = .inr y → o.1 = nI (vR t x'.1 (x'.2.1 - x'.1))) := fun z => by
      have pe : pP t T m v x = pN t T 0 (m (5 + v) - 1) x := by unfold pP; rw [if_neg z]
      refine Ev.grd (ni_in (by omega) (by omega)) ?_
      rw [ni_cl (by omega), ports, l32_1, ni_sub (by omega), l32_0]
      refine Ev.bind (y_takeNumber (lo := 0) (hi := m (5 + v) - 1) c (by omega) (by omega) hF) (fun o q => Ev.some ⟨q.1, ?_, fun x' y' e w => ?_⟩)
      · rw [pe]; exact q.2.1
      · cases e
        rw [pe] at w
        exact q.2.2 x y' rfl w
    by_cases k2 : x.2.2 = 2
    · refine Ev.pos (by rw [c0.2.1.2.2, k2]; rfl) ?_
      rw [x_numberHere c0 k2 hF]
      refine ev_bs ?_
      dsimp only
      have dg := c0.2.2.2.2.2.2 k2
      have o1 := c0.2.2.2.1
      have rc := vRC (t := t) (s := x.1) (x.2.1 - x.1) (fun i hi => (dg (x.1 + i) (by omega) (by omega)).2)
      rw [x_portTaken ok cn hv (by omega)]
      refine ev_bs ?_
      dsimp only
      have same : (vC t x.1 (x.2.1 - x.1) < m (5 + v) ∧ og m (4 * v + vC t x.1 (x.2.1 - x.1)) ≠ 0) ↔ (vR t x.1 (x.2.1 - x.1) < m (5 + v) ∧ og m (4 * v + vR t x.1 (x.2.1 - x.1)) ≠ 0) := by
        rcases rc with ⟨a, b⟩ | ⟨a, b, d, e⟩
        · rw [a]
        · exact ⟨fun q => by omega, fun q => by omega⟩
      by_cases z : vR t x.1 (x.2.1 - x.1) < m (5 + v) ∧ og m (4 * v + vR t x.1 (x.2.1 - x.1)) ≠ 0
      · have pe : pP t T m v x = .inl (2, x.1) := by unfold pP; rw [if_pos ⟨k2, z⟩]
        refine Ev.neg (by rw [bo_p (same.mpr z)]; decide) (Ev.bind (y_refuse (k := 2) c0 (by omega)) (fun h1 q1 => Ev.grd (ni_in (by omega) (by omega)) ?_))
        rw [y_tnBad (f := (2, x.1)) q1.2]
        refine ev_bs (Ev.some ⟨q1.1, by rw [pe]; exact q1.2, fun x' y' e w => ?_⟩)
        cases e
        rw [pe] at w
        cases w
      · refine Ev.pos (by rw [bo_f (fun q => z (same.mp q))]; rfl) (take (fun q => z q.2))
    · exact Ev.neg (by rw [c0.2.1.2.2, l32_2, ni_eq (by omega) (by omega)]; exact k2) (take (fun q => k2 q.1))
theorem y_readCable {T kn F : Nat} {t : Nat → Nat} {h : Hp} {x : Tok} {m : Nat → Nat} {na : Nat → Nat × Nat} (c : CR h T t (.inr x)) (hW : isW t 4 x) (hkn : ce_isNet kn) (nr : NetR h kn m) (on : OkN m) (oa : okA T (m 2) na) (ca : CA h (m 2) na) (hF : 1000 ≤ F) : Ev (f8_readCable F kn h) (fun h' => FrD kn h h' ∧ CSt h' kn T t (cableP t T x m na)) := by
  have bn := net_le hkn
  have h2 := on.1.2.1
  have h3 : h kn 3 = nI (m 2) := nr.1.2.1
  have h4 : h kn 4 = nI (ctc m) := nr.2.2.2.1
  have cl := ctc_le m
  unfold f8_readCable cableP
  by_cases full : ctc m < 15
  rotate_left
  · rw [if_neg full]
    refine Ev.neg (by rw [h4]; simp (disch := omega) only [up_s, up_k, up_j, mm_neg, mm_def, ni_lt, ni_le, ni_eq, ni_mm, mm_ni, ni_lt_mm, ni_le_mm, mm_lt_ni, mm_le_ni, mm_lt_mm, mm_le_mm, ni_cl, ni_in, nI_add, ni_mul, ni_div, ni_rem, ni_rem2, fr_sub, fr_mm, fr_ge0, fr_lt0, fr_inj, l32_0, l32_1, l32_2, l32_3, l32_4, l32_5, l32_6, l32_7, l32_8, l32_9, l32_10, l32_11, l32_12, l32_13, l32_14, l32_15, l32_16, l32_20, l32_24, l32_25, l32_26, l32_31, l32_32, l32_34, l32_35, l32_39, l32_40, l32_44, l32_45, l32_46, l32_47, l32_48, l32_49, l32_57, l32_58, l32_59, l32_63, l32_64, l32_85, l32_90, l32_97, l32_99, l32_100, l32_110, l32_112, l32_122, l32_124, l32_125, l32_255, l32_680, l32_699, l32_700, l32_999, l32_2500, l32_99999, l32_100000, l32_1000000, if_true, if_false, ite_true, ite_false, ce_nm, Option.bind, if_pos, if_neg]; exact full) (Ev.bind (y_refuse (k := 3) c.1 (by omega)) (fun h' q => Ev.some ⟨q.1.fd, q.2⟩))
  · rw [if_pos full]
    refine Ev.pos (by rw [h4]; simp (disch := omega) only [up_s, up_k, up_j, mm_neg, mm_def, ni_lt, ni_le, ni_eq, ni_mm, mm_ni, ni_lt_mm, ni_le_mm, mm_lt_ni, mm_le_ni, mm_lt_mm, mm_le_mm, ni_cl, ni_in, nI_add, ni_mul, ni_div, ni_rem, ni_rem2, fr_sub, fr_mm, fr_ge0, fr_lt0, fr_inj, l32_0, l32_1, l32_2, l32_3, l32_4, l32_5, l32_6, l32_7, l32_8, l32_9, l32_10, l32_11, l32_12, l32_13, l32_14, l32_15, l32_16, l32_20, l32_24, l32_25, l32_26, l32_31, l32_32, l32_34, l32_35, l32_39, l32_40, l32_44, l32_45, l32_46, l32_47, l32_48, l32_49, l32_57, l32_58, l32_59, l32_63, l32_64, l32_85, l32_90, l32_97, l32_99, l32_100, l32_110, l32_112, l32_122, l32_124, l32_125, l32_255, l32_680, l32_699, l32_700, l32_999, l32_2500, l32_99999, l32_100000, l32_1000000, if_true, if_false, ite_true, ite_false, ce_nm, Option.bind, if_pos, if_neg]; exact full) (Ev.bind (y_takeWord c (by omega : 4 < 9) hF) (fun h1 q1 => ?_))
    obtain ⟨f1, c1⟩ := q1
    have pw : bnd (.inr x) (pW t T 4) = .inr (tn t T x.2.1) := by
      show pW t T 4 x = _
      unfold pW
      rw [if_pos (bo_p hW)]
    rw [pw] at c1
    have caf : ∀ h', FrK h h' → CA h' (m 2) na := fun h' f v hv => by rw [f 5 (by omega), f 6 (by omega)]; exact ca v hv
    have cnf : ∀ h', FrK h h' → CNw h' kn m := fun h' f => (nr.eqv' (h' := h') hkn (fun q _ _ => f q (by omega))).1
    refine Ev.bind (y_known (no := 0) c1 oa (caf h1 f1) (by rw [f1 kn (by omega)]; exact h3) (by omega) (fun _ _ => rfl) hF) (fun o2 q2 => ?_)
    obtain ⟨f2, c2, v2⟩ := q2
    have f2' := f1.trans f2
    have c2' : CR o2.2 T t (cr1 t T m na x) := c2
    have w2 : ∀ y, cr1 t T m na x = .inr y → o2.1 = nI (kV t T m na x) ∧ kV t T m na x < m 2 := fun y hy => by
      obtain ⟨a1, a2, a3, a4, a5⟩ := pK_inr hy
      exact ⟨v2 _ y rfl hy, by unfold kV; omega⟩
    refine Ev.bind (y_port (v := kV t T m na x) c2' on.1 (cnf _ f2') w2 hF) (fun o3 q3 => ?_)
    obtain ⟨f3, c3, v3⟩ := q3
    have f3' := f2'.trans f3
    have c3' : CR o3.2 T t (cr2 t T m na x) := c3
    have hvle : kV t T m na x + 1 ≤ 10 ∨ ∃ f, cr1 t T m na x = .inl f := by
      cases r : cr1 t T m na x with
      | inl f => exact Or.inr ⟨f, rfl⟩
      | inr y => have := (w2 y r).2; exact Or.inl (by omega)
    have hv10 : kV t T m na x + 1 ≤ 10 := by
      have fl : fi (nq t (tn t T x.2.1) na) (m 2) ≤ m 2 := by
        rcases fi_spec (nq t (tn t T x.2.1) na) (m 2) with ⟨a, b⟩ | ⟨a, b, d, e⟩ <;> omega
      unfold kV
      omega
    refine Ev.bind (y_known (no := kV t T m na x + 1) c3' oa (caf _ f3') (by rw [f3' kn (by omega)]; exact h3) hv10 (fun y hy => ?_) hF) (fun o4 q4 => ?_)
    · obtain ⟨y1, e1, p1⟩ := bnd_inr hy
      rw [(w2 y1 e1).1, fr_s]
    obtain ⟨f4, c4, v4⟩ := q4
    have f4' := f3'.trans f4
    have c4' : CR o4.2 T t (cr3 t T m na x) := c4
    have w4 : ∀ y, cr3 t T m na x = .inr y → o4.1 = nI (kW t T m na x) ∧ kW t T m na x < m 2 := fun y hy => by
      obtain ⟨y2, e2, p2⟩ := bnd_inr hy
      obtain ⟨a1, a2, a3, a4, a5⟩ := pK_inr p2
      have ew : kW t T m na x = fi (nq t y2 na) (m 2) - 1 := by unfold kW; rw [e2]; rfl
      exact ⟨by rw [ew]; exact v4 _ y e2 p2, by omega⟩
    refine Ev.bind (y_port (v := kW t T m na x) c4' on.1 (cnf _ f4') w4 hF) (fun o5 q5 => ?_)
    obtain ⟨f5, c5, v5⟩ := q5
    have f5' := f4'.trans f5
    have c5' : CR o5.2 T t (cr4 t T m na x) := c5
    refine Ev.bind (y_takeWord c5' (by omega : 8 < 9) hF) (fun h6 q6 => ?_)
    obtain ⟨f6, c6⟩ := q6
    have f6' := f5'.trans f6
    have c6' : CR h6 T t (cr5 t T m na x) := c6
    refine Ev.bind (y_takeNumber (lo := 1) (hi := 9) c6' (by omega) (by omega) hF) (fun o7 q7 => ?_)
    obtain ⟨f7, c7, v7⟩ := q7
    have f7' := f6'.trans f7
    have c7' : CR o7.2 T t (cr6 t T m na x) := c7
    cases r : cr6 t T m na x with
    | inl f =>
      rw [r] at c7'
      rw [x_fine1 c7'.bad]
      exact ev_bs (Ev.pos rfl (Ev.some ⟨f7'.fd, c7'⟩))
    | inr x6 =>
      rw [r] at c7'
      rw [x_fine0 c7'.1.2.2.1]
      refine ev_bs (Ev.neg (by decide : ¬ (nI 1 : Int32) = 0) ?_)
      dsimp only
      obtain ⟨y1, y2, y3, y4, y5, e1, e2, e3, e4, e5, p1, p2, p3, p5, hv, hw, ew, nvw, hp, hq, o1', o2', l1, l9⟩ := cab_ok on r
      obtain ⟨he, hg, neq, on', pg, oe, le⟩ := cab_lym on r
      have n1 : vN t (cr1 t T m na x) = vR t y1.1 (y1.2.1 - y1.1) := by rw [e1]; rfl
      have n3 : vN t (cr3 t T m na x) = vR t y3.1 (y3.2.1 - y3.1) := by rw [e3]; rfl
      have n5 : vN t (cr5 t T m na x) = vR t y5.1 (y5.2.1 - y5.1) := by rw [e5]; rfl
      rw [(w2 y1 e1).1, v3 y1 y2 e1 p1, ← n1, x_endOf]
      refine ev_bs ?_
      dsimp only
      rw [(w4 y3 e3).1, v5 y3 y4 e3 p3, ← n3, x_endOf]
      refine ev_bs ?_
      dsimp only
      rw [v7 y5 x6 e5 p5, ← n5]
      have nr7 : NetR o7.2 kn m := nr.eqv' (h' := o7.2) hkn (fun q _ _ => f7' q (by omega))
      have lk := x_link (F := F) nr7 on'.1 he (by rw [oe]; omega) pg le
      rw [oe] at lk
      refine Ev.bind lk (fun h8 q8 => Ev.some ⟨fun q a b d e => ?_, ?_⟩)
      · rw [q8.1.1 q (by omega) (by omega) (by omega)]; exact f7' q a
      · refine ⟨CR.eqv c7' (q8.1.1 1 (by omega) (by omega) (by omega)) (q8.1.1 2 (by omega) (by omega) (by omega)) (q8.1.1 3 (by omega) (by omega) (by omega)), q8.2, fun v hv' => ?_⟩
        have m2 : lym m (cE t T m na x) (cG t T m na x) (vN t (cr5 t T m na x)) 2 = m 2 := by unfold lym; rw [if_neg (by omega), if_neg (by omega), if_neg (by omega)]
        have hv'' : v < m 2 := by rw [← m2]; exact hv'
        rw [q8.1.1 5 (by omega) (by omega) (by omega), q8.1.1 6 (by omega) (by omega) (by omega)]
        exact caf _ f7' v hv''
