-- the reference reads a node line
def FrO (h h' : Hp) : Prop := (∀ q, q ≠ 68 → q ≠ 69 → q ≠ 73 → q ≠ 74 → h' q = h q) ∧ ∀ j, (j < 5 ∨ 11 < j) → h' 68 j = h 68 j
theorem FrO.refl (h : Hp) : FrO h h := ⟨fun _ _ _ _ _ => rfl, fun _ _ => rfl⟩
theorem FrO.trans {h1 h2 h3 : Hp} (a : FrO h1 h2) (b : FrO h2 h3) : FrO h1 h3 := ⟨fun q n1 n2 n3 n4 => (b.1 q n1 n2 n3 n4).trans (a.1 q n1 n2 n3 n4), fun j hj => (b.2 j hj).trans (a.2 j hj)⟩
theorem FrS.fa {h h' : Hp} (f : FrS h h') : FrO h h' := ⟨fun q a _ _ _ => f.1 q a, f.2⟩
theorem FrM.fa {h h' : Hp} (f : FrM h h') : FrO h h' := ⟨fun q a _ c d => f.1 q a c d, f.2⟩
theorem FrV.fa {v : Nat} {h h' : Hp} (f : FrV v h h') : FrO h h' := ⟨fun q a b _ _ => f.1 q a b, f.2.1⟩
theorem FrO.up {h : Hp} {j : Nat} {v : Int32} : FrO h (hp_up h 69 j v) := ⟨fun q _ b _ _ => up_kk _ _ _ _ _ b, fun _ _ => up_k _ _ _ _ _ _ (by omega)⟩
noncomputable def MSt (h : Hp) (T : Nat) (t : Nat → Nat) (r : Rs St) : Prop := match r with
  | .inl f => MR h T t (.inl f)
  | .inr s => MR h T t (.inr s.1) ∧ MN h s.2.1 ∧ MA h (s.2.1 2) s.2.2 ∧ h 68 12 = nI (ct (fun e => bo (og s.2.1 e ≠ 0)) 40 / 2)
theorem MR.up69 {h : Hp} {T j : Nat} {t : Nat → Nat} {r : Rs Tok} {v : Int32} (c : MR h T t r) : MR (hp_up h 69 j v) T t r := c.eqv (up_kk _ _ _ _ _ (by omega)) (up_kk _ _ _ _ _ (by omega))
def jH (F : Nat) (x1 : Int32) (o156 : Int32 × Hp) : Option Hp :=
      if ce_in ((5 : Int32) + x1) 125 = true then
        ce_nm (hp_up o156.2 69 (((5 : Int32) + x1)).toNatClampNeg o156.1) (fun h_159 =>
          if (h_159 68 11) = 0 then
            Option.bind (f12_isWord F 5 h_159) (fun o170 =>
              if o170.1 = 0 then
                f12_readsNode_j190 F x1 o170.2
              else
                if ce_in ((15 : Int32) + x1) 125 = true then
                  ce_nm (hp_up o170.2 69 (((15 : Int32) + x1)).toNatClampNeg (1 : Int32)) (fun h_185 =>
                    Option.bind (f12_next F  h_185) (fun o187 =>
                      f12_readsNode_j190 F x1 o187))
                else none)
          else
            f12_readsNode_j190 F x1 h_159)
      else none
theorem jG_eq (F : Nat) (x1 : Int32) (h : Hp) : jG F x1 h = Option.bind (f12_named F 7 (nI 1) (nI 4) h) (jH F x1) := rfl
theorem z_190bad {T n F : Nat} {t : Nat → Nat} {h : Hp} {f : Nat × Nat} (c : MR h T t (.inl f)) (hn : n < 10) : Ev (f12_readsNode_j190 F (nI n) h) (fun h' => FrO h h' ∧ MR h' T t (.inl f)) := by
  unfold f12_readsNode_j190
  have e25 : (25 : Int32) + nI n = nI (25 + n) := by rw [l32_25, nI_add]
  rw [e25]
  have b1 : ¬ hp_up h 69 (nI (25 + n)).toNatClampNeg 1 68 11 = 0 := MR.bad (MR.up69 c)
  exact Ev.grd (ni_in (by omega) (by omega)) (Ev.nm (Ev.neg b1 (Ev.neg b1 (Ev.nm (Ev.some ⟨FrO.up.trans FrO.up, c.up69.up69⟩)))))
theorem z_jHbad {T n F : Nat} {t : Nat → Nat} {o : Int32 × Hp} {f : Nat × Nat} (c : MR o.2 T t (.inl f)) (hn : n < 10) : Ev (jH F (nI n) o) (fun h' => FrO o.2 h' ∧ MR h' T t (.inl f)) := by
  unfold jH
  have e5 : (5 : Int32) + nI n = nI (5 + n) := by rw [l32_5, nI_add]
  rw [e5]
  have b1 : ¬ hp_up o.2 69 (nI (5 + n)).toNatClampNeg o.1 68 11 = 0 := MR.bad (MR.up69 c)
  exact Ev.grd (ni_in (by omega) (by omega)) (Ev.nm (Ev.neg b1 (Ev.mono (z_190bad c.up69 hn) (fun h' q => ⟨FrO.up.trans q.1, q.2⟩))))
theorem z_jGbad {T n F : Nat} {t : Nat → Nat} {h : Hp} {f : Nat × Nat} (c : MR h T t (.inl f)) (hn : n < 10) (hF : 1000 ≤ F) : Ev (jG F (nI n) h) (fun h' => FrO h h' ∧ MR h' T t (.inl f)) := by
  rw [jG_eq]
  refine Ev.bind (z_named (w := 7) (lo := 1) (hi := 4) c (by omega) (by omega) (by omega) hF) (fun o q => ?_)
  obtain ⟨f1, c1, -⟩ := q
  exact Ev.mono (z_jHbad (f := f) c1 hn) (fun h' q => ⟨f1.fa.trans q.1, q.2⟩)
theorem z_190 {T n F : Nat} {t : Nat → Nat} {h : Hp} {x : Tok} (c : MR h T t (.inr x)) (hn : n < 10) (h2 : h 69 2 = nI n) (hz : h 69 (35 + n) = nI 0) (hF : 1000 ≤ F) : Ev (f12_readsNode_j190 F (nI n) h) (fun h' => FrO h h' ∧ (∀ q, q = 73 ∨ q = 74 → h' q = h q) ∧ MR h' T t (pQ t T x) ∧ ∀ z, pQ t T x = .inr z → h' 69 2 = nI (n + 1) ∧ h' 69 (25 + n) = nI (kO t T x) ∧ h' 69 (35 + n) = nI (wO t T x) ∧ ∀ j, j ≠ 2 → j ≠ 25 + n → j ≠ 35 + n → h' 69 j = h 69 j) := by
  unfold f12_readsNode_j190
  have e25 : (25 : Int32) + nI n = nI (25 + n) := by rw [l32_25, nI_add]
  have t2 : ((2 : Int32)).toNatClampNeg = 2 := rfl
  rw [e25, t2, ni_cl (by omega : 25 + n < 2147483648)]
  refine Ev.grd (ni_in (by omega) (by omega)) (Ev.nm ?_)
  obtain ⟨h1, eh1⟩ : ∃ h1, h1 = hp_up h 69 (25 + n) (1 : Int32) := ⟨_, rfl⟩
  rw [← eh1]
  have f1 : FrO h h1 := by rw [eh1]; exact FrO.up
  have c1 : MR h1 T t (.inr x) := by rw [eh1]; exact c.up69
  have s1 : h1 69 (25 + n) = nI 1 := by rw [eh1, up_s]; rfl
  have s0 : ∀ j, j ≠ 25 + n → h1 69 j = h 69 j := fun j hj => by rw [eh1, up_j _ _ _ _ _ hj]
  have k0 : ∀ q, q ≠ 69 → h1 q = h q := fun q hq => by rw [eh1]; exact up_kk _ _ _ _ _ hq
  clear eh1
  have h21 : h1 69 2 = nI n := by rw [s0 2 (by omega)]; exact h2
  refine Ev.pos c1.good ?_
  rw [x_misWord c1.1 (by omega : 6 < 9) hF]
  refine ev_bs ?_
  dsimp only
  by_cases w : bo (isW t 6 x) = true
  rotate_left
  · have pe : pQ t T x = .inr x := by rw [pQ_R, if_neg w]
    have ke : kO t T x = 1 := by unfold kO; rw [if_neg w]
    have we : wO t T x = 0 := by unfold wO; rw [if_neg w]
    rw [pe, ke, we]
    refine Ev.pos (by rw [if_neg w]; rfl) (Ev.pos c1.good (Ev.nm (Ev.some ⟨f1.trans FrO.up, fun q hq => by rw [up_kk _ _ _ _ _ (by omega)]; exact k0 q (by omega), c1.up69, fun z hz' => ⟨?_, ?_, ?_, fun j a b d => ?_⟩⟩)))
    · rw [up_s, h21, nI_1]
    · rw [up_j _ _ _ _ _ (by omega)]; exact s1
    · rw [up_j _ _ _ _ _ (by omega), s0 _ (by omega)]; exact hz
    · rw [up_j _ _ _ _ _ a, s0 j b]
  · have pe : pQ t T x = pR t T (tn t T x.2.1) := by rw [pQ_R, if_pos w]
    have ke : kO t T x = (tn t T x.2.1).2.1 - (tn t T x.2.1).1 := by unfold kO; rw [if_pos w]
    have we : wO t T x = wC (dg t (tn t T x.2.1)) ((tn t T x.2.1).2.1 - (tn t T x.2.1).1) := by unfold wO; rw [if_pos w]
    rw [pe, ke, we]
    refine Ev.neg (by rw [if_pos w]; decide) (Ev.bind (z_next c1 hF) (fun h3 q3 => ?_))
    obtain ⟨f3, c3⟩ := q3
    refine Ev.bind (z_readsCoins c3 hn (by rw [f3.1 69 (by omega), s0 _ (by omega)]; exact hz) hF) (fun h4 q4 => ?_)
    obtain ⟨f4, c4, v4⟩ := q4
    have k4 : ∀ q, q = 73 ∨ q = 74 → h4 q = h q := fun q hq => by rw [f4.1 q (by omega) (by omega), f3.1 q (by omega), k0 q (by omega)]
    have a24 : h4 69 2 = nI n := by rw [f4.2.2 2 (by omega) (by omega), f3.1 69 (by omega)]; exact h21
    have fa : FrO h h4 := (f1.trans f3.fa).trans f4.fa
    cases r : pR t T (tn t T x.2.1) with
    | inl f =>
      rw [r] at c4
      exact Ev.neg c4.bad (Ev.nm (Ev.some ⟨fa.trans FrO.up, fun q hq => by rw [up_kk _ _ _ _ _ (by omega)]; exact k4 q hq, c4.up69, fun z hz' => by cases hz'⟩))
    | inr y =>
      rw [r] at c4
      obtain ⟨w1, w2⟩ := v4 y r
      refine Ev.pos c4.good (Ev.nm (Ev.some ⟨fa.trans FrO.up, fun q hq => by rw [up_kk _ _ _ _ _ (by omega)]; exact k4 q hq, c4.up69, fun z hz' => ⟨?_, ?_, ?_, fun j a b d => ?_⟩⟩))
      · rw [up_s, a24, nI_1]
      · rw [up_j _ _ _ _ _ (by omega)]; exact w1
      · rw [up_j _ _ _ _ _ (by omega)]; exact w2
      · rw [up_j _ _ _ _ _ a, f4.2.2 j b d, f3.1 69 (by omega), s0 j b]
theorem z_jH {T n F p : Nat} {t : Nat → Nat} {o : Int32 × Hp} {x : Tok} (c : MR o.2 T t (.inr x)) (hp : o.1 = nI p) (hn : n < 10) (h2 : o.2 69 2 = nI n) (h15 : o.2 69 (15 + n) = nI 0) (hz : o.2 69 (35 + n) = nI 0) (hF : 1000 ≤ F) : Ev (jH F (nI n) o) (fun h' => FrO o.2 h' ∧ (∀ q, q = 73 ∨ q = 74 → h' q = o.2 q) ∧ MR h' T t (pQ t T (x5 t T x)) ∧ ∀ z, pQ t T (x5 t T x) = .inr z → h' 69 2 = nI (n + 1) ∧ h' 69 (5 + n) = nI p ∧ h' 69 (15 + n) = nI (fO t x) ∧ h' 69 (25 + n) = nI (kO t T (x5 t T x)) ∧ h' 69 (35 + n) = nI (wO t T (x5 t T x)) ∧ ∀ j, j ≠ 2 → j ≠ 5 + n → j ≠ 15 + n → j ≠ 25 + n → j ≠ 35 + n → h' 69 j = o.2 69 j) := by
  unfold jH
  have e5 : (5 : Int32) + nI n = nI (5 + n) := by rw [l32_5, nI_add]
  have e15 : (15 : Int32) + nI n = nI (15 + n) := by rw [l32_15, nI_add]
  rw [e5, e15, ni_cl (by omega : 5 + n < 2147483648), ni_cl (by omega : 15 + n < 2147483648), hp]
  refine Ev.grd (ni_in (by omega) (by omega)) (Ev.nm ?_)
  obtain ⟨h1, eh1⟩ : ∃ h1, h1 = hp_up o.2 69 (5 + n) (nI p) := ⟨_, rfl⟩
  rw [← eh1]
  have f1 : FrO o.2 h1 := by rw [eh1]; exact FrO.up
  have c1 : MR h1 T t (.inr x) := by rw [eh1]; exact c.up69
  have s1 : h1 69 (5 + n) = nI p := by rw [eh1, up_s]
  have s0 : ∀ j, j ≠ 5 + n → h1 69 j = o.2 69 j := fun j hj => by rw [eh1, up_j _ _ _ _ _ hj]
  have k0 : ∀ q, q ≠ 69 → h1 q = o.2 q := fun q hq => by rw [eh1]; exact up_kk _ _ _ _ _ hq
  clear eh1
  refine Ev.pos c1.good ?_
  rw [x_misWord c1.1 (by omega : 5 < 9) hF]
  refine ev_bs ?_
  dsimp only
  by_cases w : bo (isW t 5 x) = true
  · have e5 : x5 t T x = tn t T x.2.1 := by unfold x5; rw [if_pos w]
    have ef : fO t x = 1 := by unfold fO; rw [if_pos w]
    rw [e5, ef]
    refine Ev.neg (by rw [if_pos w]; decide) (Ev.grd (ni_in (by omega) (by omega)) (Ev.nm ?_))
    refine Ev.bind (z_next c1.up69 hF) (fun h3 q3 => ?_)
    obtain ⟨f3, c3⟩ := q3
    have s3 : ∀ j, j ≠ 5 + n → j ≠ 15 + n → h3 69 j = o.2 69 j := fun j a b => by rw [f3.1 69 (by omega), up_j _ _ _ _ _ b, s0 j a]
    refine Ev.mono (z_190 c3 hn (by rw [s3 2 (by omega) (by omega)]; exact h2) (by rw [s3 _ (by omega) (by omega)]; exact hz) hF) (fun h' q => ⟨((f1.trans FrO.up).trans f3.fa).trans q.1, fun y hy => ?_, q.2.2.1, fun z hz' => ?_⟩)
    · rw [q.2.1 y hy, f3.1 y (by omega), up_kk _ _ _ _ _ (by omega), k0 y (by omega)]
    · obtain ⟨v1, v2, v3, v4⟩ := q.2.2.2 z hz'
      refine ⟨v1, ?_, ?_, v2, v3, fun j a b d e g => ?_⟩
      · rw [v4 _ (by omega) (by omega) (by omega), f3.1 69 (by omega), up_j _ _ _ _ _ (by omega)]; exact s1
      · rw [v4 _ (by omega) (by omega) (by omega), f3.1 69 (by omega), up_s]; rfl
      · rw [v4 j a e g]; exact s3 j b d
  · have e5 : x5 t T x = x := by unfold x5; rw [if_neg w]
    have ef : fO t x = 0 := by unfold fO; rw [if_neg w]
    rw [e5, ef]
    refine Ev.pos (by rw [if_neg w]; rfl) (Ev.mono (z_190 c1 hn (by rw [s0 2 (by omega)]; exact h2) (by rw [s0 _ (by omega)]; exact hz) hF) (fun h' q => ⟨f1.trans q.1, fun y hy => ?_, q.2.2.1, fun z hz' => ?_⟩))
    · rw [q.2.1 y hy, k0 y (by omega)]
    · obtain ⟨v1, v2, v3, v4⟩ := q.2.2.2 z hz'
      refine ⟨v1, ?_, ?_, v2, v3, fun j a b d e g => ?_⟩
      · rw [v4 _ (by omega) (by omega) (by omega)]; exact s1
      · rw [v4 _ (by omega) (by omega) (by omega), s0 _ (by omega)]; exact h15
      · rw [v4 j a e g]; exact s0 j b
theorem z_readsNode {T F : Nat} {t : Nat → Nat} {h : Hp} {x : Tok} {m : Nat → Nat} {na : Nat → Nat × Nat} (c : MR h T t (.inr x)) (mn : MN h m) (h2 : m 2 ≤ 10) (oa : okA T (m 2) na) (ma : MA h (m 2) na) (cz : h 68 12 = nI (ct (fun e => bo (og m e ≠ 0)) 40 / 2)) (z15 : m 2 < 10 → m (15 + m 2) = 0 ∧ m (35 + m 2) = 0) (hF : 1000 ≤ F) : Ev (f12_readsNode F h) (fun h' => FrO h h' ∧ MSt h' T t (nodeP t T x m na)) := by
  have e2 : h 69 2 = nI (m 2) := mn 2 (by omega)
  have t2 : ((2 : Int32)).toNatClampNeg = 2 := rfl
  unfold f12_readsNode nodeP
  rw [t2]
  by_cases full : m 2 < 10
  rotate_left
  · rw [if_neg full]
    refine Ev.pos (by rw [e2, show m 2 = 10 by omega]; rfl) (Ev.bind (z_faults (k := 3) c) (fun h1 q1 => ?_))
    have c1 : MR h1 T t (.inl (3, x.1)) := q1.2
    unfold f12_readsNode_j16
    refine Ev.bind (z_pass1 c1 hF) (fun h3 q3 => ?_)
    have c3 : MR h3 T t (.inl (3, x.1)) := q3.2
    refine Ev.neg c3.bad ?_
    unfold f12_readsNode_j38
    refine Ev.neg c3.bad ?_
    unfold f12_readsNode_j88
    refine Ev.neg c3.bad ?_
    unfold f12_readsNode_j120
    refine Ev.neg c3.bad ?_
    unfold f12_readsNode_j136
    rw [j141_eq]
    refine Ev.bind (z_pass1 c3 hF) (fun h4 q4 => ?_)
    have c4 : MR h4 T t (.inl (3, x.1)) := q4.2
    exact Ev.mono (z_jGbad (n := 0) c4 (by omega) hF) (fun h' q => ⟨((q1.1.fa.trans q3.1.fa).trans q4.1.fa).trans q.1, q.2⟩)
  · rw [if_pos full]
    refine Ev.neg (by rw [e2, show (10 : Int32) = nI 10 from rfl, ni_eq (by omega) (by omega)]; omega) ?_
    unfold f12_readsNode_j16
    refine Ev.bind (z_pass1 c hF) (fun h1 q1 => ?_)
    have c1 : MR h1 T t (.inr (tn t T x.2.1)) := q1.2
    refine Ev.pos c1.good ?_
    rw [t2, q1.1.1 69 (by omega), e2]
    refine z_newName (n := m 2) c1 oa (fun v hv => by rw [q1.1.1 73 (by omega), q1.1.1 74 (by omega)]; exact ma v hv) (by rw [q1.1.1 69 (by omega)]; exact e2) full hF (fun h3 f3 c3 m3 => ?_)
    have k69 : h3 69 = h 69 := by rw [f3.1 69 (by omega) (by omega) (by omega), q1.1.1 69 (by omega)]
    have f13 : FrO h h3 := q1.1.fa.trans f3.fa
    cases r : pM t T (m 2) na (tn t T x.2.1) with
    | inl f =>
      rw [r] at c3
      have e4 : nR4 t T m na x = .inl f := by unfold nR4 nR3; rw [r]; rfl
      rw [e4]
      exact Ev.mono (z_jGbad c3 full hF) (fun h' q => ⟨f13.trans q.1, q.2⟩)
    | inr y =>
      have ma3 := m3 y r
      rw [jG_eq]
      refine Ev.bind (z_named (w := 7) (lo := 1) (hi := 4) c3 (by omega) (by omega) (by omega) hF) (fun o q => ?_)
      obtain ⟨f4, c4, v4⟩ := q
      have r4 : bnd (bnd (pM t T (m 2) na (tn t T x.2.1)) (pW t T 7)) (pN t T 1 4) = nR4 t T m na x := rfl
      rw [r4] at c4
      cases e4 : nR4 t T m na x with
      | inl f =>
        rw [e4] at c4
        exact Ev.mono (z_jHbad c4 full) (fun h' q => ⟨(f13.trans f4.fa).trans q.1, q.2⟩)
      | inr x4 =>
        rw [e4] at c4
        obtain ⟨y3, e3, p3⟩ := bnd_inr e4
        have val : o.1 = nI (vN t (nR3 t T m na x)) := by rw [v4 y3 x4 e3 p3, e3]; rfl
        have o69 : o.2 69 = h 69 := by rw [f4.1 69 (by omega), k69]
        obtain ⟨z1, z2⟩ := z15 full
        refine Ev.mono (z_jH c4 val full (by rw [o69]; exact e2) (by rw [o69, mn _ (by omega), z1]) (by rw [o69, mn _ (by omega), z2]) hF) (fun h' q => ?_)
        obtain ⟨f5, g5, c5, v5⟩ := q
        refine ⟨(f13.trans f4.fa).trans f5, ?_⟩
        show MSt h' T t (nTl t T m na x x4)
        unfold nTl
        cases r7 : pQ t T (x5 t T x4) with
        | inl f =>
          rw [r7] at c5
          exact c5
        | inr x6 =>
          rw [r7] at c5
          obtain ⟨w1, w2, w3, w4, w5, w6⟩ := v5 x6 r7
          refine ⟨c5, fun j hj => ?_, fun v hv => ?_, ?_⟩
          · show h' 69 j = nI (addm m (vN t (nR3 t T m na x)) (fO t x4) (kO t T (x5 t T x4)) (wO t T (x5 t T x4)) j)
            by_cases j2 : j = 2
            · rw [j2, w1, addm_2]
            · by_cases j5 : j = 5 + m 2
              · rw [j5, w2, addm_5]
              · by_cases j15 : j = 15 + m 2
                · rw [j15, w3, addm_15]
                · by_cases j25 : j = 25 + m 2
                  · rw [j25, w4, addm_25]
                  · by_cases j35 : j = 35 + m 2
                    · rw [j35, w5, addm_35]
                    · rw [w6 j j2 j5 j15 j25 j35, addm_n j2 j5 j15 j25 j35, o69]
                      exact mn j hj
          · dsimp only at hv ⊢
            rw [addm_2] at hv
            rw [g5 73 (by omega), g5 74 (by omega), f4.1 73 (by omega), f4.1 74 (by omega)]
            exact ma3 v hv
          · show h' 68 12 = nI (ct (fun e => bo (og (addm m (vN t (nR3 t T m na x)) (fO t x4) (kO t T (x5 t T x4)) (wO t T (x5 t T x4))) e ≠ 0)) 40 / 2)
            rw [addm_og full, f5.2 12 (by omega), f4.2 12 (by omega), f3.2 12 (by omega), q1.1.2 12 (by omega)]
            exact cz
