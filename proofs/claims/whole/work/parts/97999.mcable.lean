-- the reference reads a cable line
theorem mx0 {q : Nat} (h : q ≤ 10) : (if (0 : Int32) < fr q then fr q else (0 : Int32)) = nI (q - 1) := by
  by_cases z : q = 0
  · rw [z]; decide
  · rw [fr_p (by omega)]
    by_cases y : q - 1 = 0
    · rw [y]; decide
    · rw [if_pos (by rw [l32_0, ni_lt (by omega) (by omega)]; omega)]
theorem z_readsEnd {T F n no : Nat} {t : Nat → Nat} {h : Hp} {r : Rs Tok} {na : Nat → Nat × Nat} {x1 : Int32} (c : MR h T t r) (oa : okA T n na) (ma : MA h n na) (h2 : h 69 2 = nI n) (hno : no ≤ 10) (hx : ∀ x, r = .inr x → x1 = fr no) (hF : 1000 ≤ F) : Ev (f12_readsEnd F x1 h) (fun o => FrS h o.2 ∧ MR o.2 T t (bnd r (pK t T n na no)) ∧ (∃ v, o.1 = nI v ∧ v < 10) ∧ ∀ x y, r = .inr x → pK t T n na no x = .inr y → o.1 = nI (fi (nq t x na) n - 1)) := by
  have v0 : (if (0 : Int32) < (-1 : Int32) then (-1 : Int32) else (0 : Int32)) = nI 0 := by decide
  have hn := oa.1
  unfold f12_readsEnd
  cases r with
  | inl f =>
    refine Ev.neg c.bad ?_
    unfold f12_readsEnd_j15 f12_readsEnd_j23
    refine Ev.neg c.bad (Ev.neg c.bad (Ev.bind (z_pass1 c hF) (fun h1 q1 => Ev.some ⟨q1.1, q1.2, ⟨0, v0, by omega⟩, fun x y q => by cases q⟩)))
  | inr x =>
    show Ev _ (fun (o : Int32 × Hp) => FrS h o.2 ∧ MR o.2 T t (pK t T n na no x) ∧ (∃ v, o.1 = nI v ∧ v < 10) ∧ ∀ x' y, (Sum.inr x : Rs Tok) = .inr x' → pK t T n na no x' = .inr y → o.1 = nI (fi (nq t x' na) n - 1))
    have c0 := c.1
    have kl := c0.2.2.2.2.2.1
    have l3 := c0.2.1.2.2.1
    refine Ev.pos c.good ?_
    by_cases k1 : x.2.2 = 1
    · have l31 : h 68 9 = 1 := by rw [l3, k1]; rfl
      refine Ev.pos l31 ?_
      rw [x_mnode c0 oa ma h2 hF, hx x rfl]
      refine ev_bs ?_
      dsimp only
      have fl : fi (nq t x na) n ≤ n := by
        rcases fi_spec (nq t x na) n with ⟨a, b⟩ | ⟨a, b, d, e⟩ <;> omega
      have pe : pK t T n na no x = if fi (nq t x na) n = 0 ∨ fi (nq t x na) n = no then .inl (2, x.1) else .inr (tn t T x.2.1) := by unfold pK; rw [if_pos k1]
      generalize hq : fi (nq t x na) n = q at fl pe
      have mx := mx0 (q := q) (by omega)
      unfold f12_readsEnd_j23
      refine Ev.pos c.good (Ev.pos l31 ?_)
      by_cases z : q = 0 ∨ q = no
      · rw [if_pos z] at pe
        have fin : Ev (f12_readsEnd_j49 F (fr q) h) (fun o => FrS h o.2 ∧ MR o.2 T t (pK t T n na no x) ∧ (∃ v, o.1 = nI v ∧ v < 10) ∧ ∀ x' y, (Sum.inr x : Rs Tok) = .inr x' → pK t T n na no x' = .inr y → o.1 = nI (fi (nq t x' na) n - 1)) := by
          unfold f12_readsEnd_j49
          refine Ev.bind (z_faults (k := 2) c) (fun h1 q1 => ?_)
          have c1 : MR h1 T t (.inl (2, x.1)) := q1.2
          refine Ev.neg c1.bad (Ev.bind (z_pass1 c1 hF) (fun h3 q3 => Ev.some ⟨q1.1.trans q3.1, ?_, ⟨q - 1, mx, by omega⟩, fun x' y' e w => ?_⟩))
          · rw [pe]; exact q3.2
          · cases e
            rw [pe] at w
            cases w
        by_cases z0 : q = 0
        · exact Ev.pos (by rw [z0]; rfl) fin
        · exact Ev.neg (by rw [mm_def, fr_mm (by omega)]; exact z0) (Ev.pos (by rw [fr_inj (by omega) (by omega)]; omega) fin)
      · rw [if_neg z] at pe
        refine Ev.neg (by rw [mm_def, fr_mm (by omega)]; omega) (Ev.neg (by rw [fr_inj (by omega) (by omega)]; omega) (Ev.pos c.good (Ev.pos l31 (Ev.bind (z_pass1 c hF) (fun h3 q3 => Ev.some ⟨q3.1, ?_, ⟨q - 1, mx, by omega⟩, fun x' y' e w => ?_⟩)))))
        · rw [pe]; exact q3.2
        · cases e
          rw [hq]
          exact mx
    · have pe : pK t T n na no x = .inl (1, x.1) := by unfold pK; rw [if_neg k1]
      have l31 : ¬ h 68 9 = 1 := by rw [l3, l32_1, ni_eq (by omega) (by omega)]; exact k1
      refine Ev.neg l31 ?_
      unfold f12_readsEnd_j15 f12_readsEnd_j23
      refine Ev.pos c.good (Ev.neg l31 (Ev.pos c.good (Ev.neg l31 (Ev.bind (z_pass0 c hF) (fun h3 q3 => Ev.some ⟨q3.1, ?_, ⟨0, v0, by omega⟩, fun x' y' e w => ?_⟩)))))
      · rw [pe]; exact q3.2
      · cases e
        rw [pe] at w
        cases w
theorem z_readsBad {T F : Nat} {t : Nat → Nat} {h : Hp} {f : Nat × Nat} {x y : Int32} (c : MR h T t (.inl f)) : f12_reads F x y h = some (x, h) := by
  refine Ev.eq ?_
  unfold f12_reads
  exact Ev.neg c.bad (Ev.some rfl)
theorem z_readsPort {T F u v : Nat} {t : Nat → Nat} {h : Hp} {r : Rs Tok} {m : Nat → Nat} (c : MR h T t r) (ok : OkG m) (mn : MN h m) (hu : u < 10) (hx : ∀ x, r = .inr x → u = v ∧ v < m 2) (hF : 1000 ≤ F) : Ev (f12_readsPort F (nI u) h) (fun o => FrS h o.2 ∧ MR o.2 T t (bnd r (pP t T m v)) ∧ ∀ x y, r = .inr x → pP t T m v x = .inr y → o.1 = nI (vR t x.1 (x.2.1 - x.1))) := by
  have e5 : (5 : Int32) + nI u = nI (5 + u) := by rw [l32_5, nI_add]
  have i5 : ce_in (nI (5 + u)) 125 = true := ni_in (by omega) (by omega)
  unfold f12_readsPort
  rw [e5]
  cases r with
  | inl f =>
    refine Ev.neg c.bad (Ev.grd i5 ?_)
    rw [z_readsBad c]
    exact ev_bs (Ev.some ⟨FrS.refl _, c, fun x y q => by cases q⟩)
  | inr x =>
    obtain ⟨rfl, hv⟩ := hx x rfl
    show Ev _ (fun (o : Int32 × Hp) => FrS h o.2 ∧ MR o.2 T t (pP t T m u x) ∧ ∀ x' y, (Sum.inr x : Rs Tok) = .inr x' → pP t T m u x' = .inr y → o.1 = nI (vR t x'.1 (x'.2.1 - x'.1)))
    have c0 := c.1
    have kl := c0.2.2.2.2.2.1
    have l3 := c0.2.1.2.2.1
    have h2 := ok.2.1
    have p4 := ok.2.2.1 u hv
    have ports : h 69 (nI (5 + u)).toNatClampNeg - (1 : Int32) = nI (m (5 + u) - 1) := by rw [ni_cl (by omega), mn _ (by omega), l32_1, ni_sub (by omega)]
    have take : ¬ (x.2.2 = 2 ∧ vR t x.1 (x.2.1 - x.1) < m (5 + u) ∧ og m (4 * u + vR t x.1 (x.2.1 - x.1)) ≠ 0) → Ev (if ce_in (nI (5 + u)) 125 = true then Option.bind (f12_reads F (0 : Int32) (h 69 (nI (5 + u)).toNatClampNeg - (1 : Int32)) h) (fun o74 => some (o74.1, o74.2)) else none) (fun o => FrS h o.2 ∧ MR o.2 T t (pP t T m u x) ∧ ∀ x' y, (Sum.inr x : Rs Tok) = .inr x' → pP t T m u x' = .inr y → o.1 = nI (vR t x'.1 (x'.2.1 - x'.1))) := fun z => by
      have pe : pP t T m u x = pN t T 0 (m (5 + u) - 1) x := by unfold pP; rw [if_neg z]
      refine Ev.grd i5 ?_
      rw [ports, l32_0]
      refine Ev.bind (z_reads (lo := 0) (hi := m (5 + u) - 1) c (by omega) (by omega) hF) (fun o q => Ev.some ⟨q.1, ?_, fun x' y' e w => ?_⟩)
      · rw [pe]; exact q.2.1
      · cases e
        rw [pe] at w
        exact q.2.2 x y' rfl w
    refine Ev.pos c.good ?_
    by_cases k2 : x.2.2 = 2
    · refine Ev.pos (by rw [l3, k2]; rfl) (Ev.grd i5 ?_)
      have v10 : h 68 10 = nI (vR t x.1 (x.2.1 - x.1)) := by rw [c0.2.1.2.2.2, if_pos k2]
      have dg := c0.2.2.2.2.2.2 k2
      have o1 := c0.2.2.2.1
      have rc := vRC (t := t) (s := x.1) (x.2.1 - x.1) (fun i hi => (dg (x.1 + i) (by omega) (by omega)).2)
      have inq : f12_in F ((h 68 10).toInt64) (0 : Int64) ((h 69 (nI (5 + u)).toNatClampNeg - (1 : Int32)).toInt64) h = some (if vR t x.1 (x.2.1 - x.1) < m (5 + u) then nI 1 else nI 0, h) := by
        rw [ports, v10, show (0 : Int64) = (nI 0).toInt64 from rfl, x_in]
        generalize vR t x.1 (x.2.1 - x.1) = vr at rc
        by_cases y : vr < m (5 + u)
        · rw [if_pos y, if_pos ⟨by rw [ni_le (by omega) (by omega)]; omega, by rw [ni_le (by omega) (by omega)]; omega⟩]
        · rw [if_neg y, if_neg (fun q => y (by have := q.2; rw [ni_le (by omega) (by omega)] at this; omega))]
      rw [inq]
      refine ev_bs ?_
      dsimp only
      by_cases y : vR t x.1 (x.2.1 - x.1) < m (5 + u)
      · refine Ev.neg (by rw [if_pos y]; decide) ?_
        have e45 : ((45 : Int32) + ((4 : Int32) * nI u)) + h 68 10 = nI (45 + (4 * u + vR t x.1 (x.2.1 - x.1))) := by
          rw [v10, show (4 : Int32) = nI 4 from rfl, show (45 : Int32) = nI 45 from rfl, ni_mul, nI_add, nI_add]
          congr 1
          omega
        rw [e45]
        refine Ev.grd (ni_in (by omega) (by omega)) ?_
        have hv45 : h 69 (nI (45 + (4 * u + vR t x.1 (x.2.1 - x.1)))).toNatClampNeg = nI (og m (4 * u + vR t x.1 (x.2.1 - x.1))) := by
          rw [ni_cl (by omega : 45 + (4 * u + vR t x.1 (x.2.1 - x.1)) < 2147483648), mn _ (by omega : 45 + (4 * u + vR t x.1 (x.2.1 - x.1)) < 125)]
          rfl
        have ol := og_le ok.2.2.2.1 (show 4 * u + vR t x.1 (x.2.1 - x.1) < 40 by omega)
        by_cases z : og m (4 * u + vR t x.1 (x.2.1 - x.1)) = 0
        · exact Ev.pos (by rw [hv45, z]; decide) (take (fun q => q.2.2 z))
        · have pe : pP t T m u x = .inl (2, x.1) := by unfold pP; rw [if_pos ⟨k2, y, z⟩]
          refine Ev.neg (by rw [hv45, l32_0, ni_le (by omega) (by omega)]; omega) (Ev.bind (z_faults (k := 2) c) (fun h1 q1 => Ev.grd i5 ?_))
          have c1 : MR h1 T t (.inl (2, x.1)) := q1.2
          rw [z_readsBad c1]
          refine ev_bs (Ev.some ⟨q1.1, by rw [pe]; exact c1, fun x' y' e w => ?_⟩)
          cases e
          rw [pe] at w
          cases w
      · exact Ev.pos (by rw [if_neg y]; rfl) (take (fun q => y q.2.1))
    · exact Ev.neg (by rw [l3, l32_2, ni_eq (by omega) (by omega)]; exact k2) (take (fun q => k2 q.1))
def FrP (h h' : Hp) : Prop := (∀ q, q ≠ 68 → q ≠ 69 → q ≠ 73 → q ≠ 74 → h' q = h q) ∧ ∀ j, (j < 4 ∨ 12 < j) → h' 68 j = h 68 j
theorem FrP.refl (h : Hp) : FrP h h := ⟨fun _ _ _ _ _ => rfl, fun _ _ => rfl⟩
theorem FrP.trans {h1 h2 h3 : Hp} (a : FrP h1 h2) (b : FrP h2 h3) : FrP h1 h3 := ⟨fun q n1 n2 n3 n4 => (b.1 q n1 n2 n3 n4).trans (a.1 q n1 n2 n3 n4), fun j hj => (b.2 j hj).trans (a.2 j hj)⟩
theorem FrO.fp {h h' : Hp} (f : FrO h h') : FrP h h' := ⟨f.1, fun j hj => f.2 j (by omega)⟩
theorem FrS.fp {h h' : Hp} (f : FrS h h') : FrP h h' := f.fa.fp
theorem FrP.up {h : Hp} {j : Nat} {v : Int32} : FrP h (hp_up h 69 j v) := (FrO.up).fp
theorem MR.up12 {h : Hp} {T : Nat} {t : Nat → Nat} {r : Rs Tok} {v : Int32} (c : MR h T t r) : MR (hp_up h 68 12 v) T t r := by
  have k : ∀ j, j ≠ 12 → hp_up h 68 12 v 68 j = h 68 j := fun j hj => up_j _ _ _ _ _ hj
  have tme : TM h T t → TM (hp_up h 68 12 v) T t := fun q => by unfold TM; rw [k 4 (by omega), up_kk _ _ _ _ _ (by omega)]; exact q
  cases r with
  | inl f =>
    obtain ⟨a, b, d, e⟩ := c
    exact ⟨tme a, by rw [k _ (by omega)]; exact b, by rw [k _ (by omega)]; exact d, by rw [k _ (by omega)]; exact e⟩
  | inr x =>
    obtain ⟨⟨a, ⟨b1, b2, b3, b4⟩, d, e⟩, g1, g2⟩ := c
    exact ⟨⟨tme a, ⟨by rw [k _ (by omega)]; exact b1, by rw [k _ (by omega)]; exact b2, by rw [k _ (by omega)]; exact b3, by rw [k _ (by omega)]; exact b4⟩, by rw [k _ (by omega)]; exact d, e⟩, by rw [k _ (by omega)]; exact g1, by rw [k _ (by omega)]; exact g2⟩
theorem z_readsCable {T F : Nat} {t : Nat → Nat} {h : Hp} {x : Tok} {m : Nat → Nat} {na : Nat → Nat × Nat} (c : MR h T t (.inr x)) (mn : MN h m) (on : OkN m) (oa : okA T (m 2) na) (ma : MA h (m 2) na) (cz : h 68 12 = nI (ctc m)) (c15 : ctc m ≤ 15) (hF : 1000 ≤ F) : Ev (f12_readsCable F h) (fun h' => FrP h h' ∧ MSt h' T t (cableP t T x m na)) := by
  have h2 := on.1.2.1
  have e2 : h 69 2 = nI (m 2) := mn 2 (by omega)
  -- all that follows, from the token behind the word on
  have go : ∀ (h1 : Hp) (r : Rs Tok) (Q : Hp → Prop), FrP h h1 → MN h1 m → MA h1 (m 2) na → MR h1 T t r → (∀ h7 (f : Nat × Nat), r = .inl f → FrP h h7 → MR h7 T t (.inl f) → Q h7) → (r = .inr x → (∀ h7 f, FrP h h7 → MR h7 T t (.inl f) → cr6 t T m na x = .inl f → Q h7) ∧ (∀ h6 h7 x6, FrP h h6 → FrS h1 h6 → MR h6 T t (.inr x6) → MN h6 m → MA h6 (m 2) na → cr6 t T m na x = .inr x6 → F69 h6 h7 → MN h7 (lym m (cE t T m na x) (cG t T m na x) (vN t (cr5 t T m na x))) → Q (hp_up h7 68 12 (h7 68 12 + 1)))) → (∀ y, r = .inr y → y = x) → Ev (f12_readsCable_j14 F h1) Q := fun h1 r Q f1 mn1 ma1 c1 kbad kgood rx => by
    have maf : ∀ h', FrS h1 h' → MA h' (m 2) na := fun h' f v hv => by rw [f.1 73 (by omega), f.1 74 (by omega)]; exact ma1 v hv
    have mnf : ∀ h', FrS h1 h' → MN h' m := fun h' f j hj => by rw [f.1 69 (by omega)]; exact mn1 j hj
    have e21 : ∀ h', FrS h1 h' → h' 69 2 = nI (m 2) := fun h' f => mnf h' f 2 (by omega)
    unfold f12_readsCable_j14
    refine Ev.bind (z_pass1 c1 hF) (fun h2' q2 => ?_)
    obtain ⟨f2, c2⟩ := q2
    cases r with
    | inl f =>
      have cb : MR h2' T t (.inl f) := c2
      refine Ev.bind (z_readsEnd (no := 0) cb oa (maf _ f2) (e21 _ f2) (by omega) (fun _ q => by cases q) hF) (fun o3 q3 => ?_)
      obtain ⟨f3, c3, ⟨v, ev, hv⟩, -⟩ := q3
      have f3' := f2.trans f3
      have cb3 : MR o3.2 T t (.inl f) := c3
      rw [ev]
      refine Ev.bind (z_readsPort (v := v) cb3 on.1 (mnf _ f3') hv (fun _ q => by cases q) hF) (fun o4 q4 => ?_)
      obtain ⟨f4, c4, -⟩ := q4
      have f4' := f3'.trans f4
      have cb4 : MR o4.2 T t (.inl f) := c4
      refine Ev.bind (z_readsEnd (no := 0) cb4 oa (maf _ f4') (e21 _ f4') (by omega) (fun _ q => by cases q) hF) (fun o5 q5 => ?_)
      obtain ⟨f5, c5, ⟨w, ew, hw⟩, -⟩ := q5
      have f5' := f4'.trans f5
      have cb5 : MR o5.2 T t (.inl f) := c5
      rw [ew]
      refine Ev.bind (z_readsPort (v := w) cb5 on.1 (mnf _ f5') hw (fun _ q => by cases q) hF) (fun o6 q6 => ?_)
      obtain ⟨f6, c6, -⟩ := q6
      have f6' := f5'.trans f6
      have cb6 : MR o6.2 T t (.inl f) := c6
      refine Ev.bind (z_named (w := 8) (lo := 1) (hi := 9) cb6 (by omega) (by omega) (by omega) hF) (fun o7 q7 => ?_)
      obtain ⟨f7, c7, -⟩ := q7
      have f7' := f6'.trans f7
      have cb7 : MR o7.2 T t (.inl f) := c7
      exact Ev.neg cb7.bad (Ev.some (kbad _ f rfl (f1.trans f7'.fp) cb7))
    | inr x' =>
      obtain rfl : x' = x := rx x' rfl
      obtain ⟨kb, kg⟩ := kgood rfl
      have c2' : MR h2' T t (.inr (tn t T x'.2.1)) := c2
      refine Ev.bind (z_readsEnd (no := 0) c2' oa (maf _ f2) (e21 _ f2) (by omega) (fun _ _ => rfl) hF) (fun o3 q3 => ?_)
      obtain ⟨f3, c3, ⟨v, ev, hv⟩, v3⟩ := q3
      have f3' := f2.trans f3
      have c3' : MR o3.2 T t (cr1 t T m na x') := c3
      have w3 : ∀ y, cr1 t T m na x' = .inr y → v = kV t T m na x' ∧ kV t T m na x' < m 2 := fun y hy => by
        obtain ⟨a1, a2, a3, a4, a5⟩ := pK_inr hy
        have e := v3 _ y rfl hy
        rw [ev, ni_eq (by omega) (by omega)] at e
        exact ⟨e, by unfold kV; omega⟩
      rw [ev]
      refine Ev.bind (z_readsPort (v := kV t T m na x') c3' on.1 (mnf _ f3') hv w3 hF) (fun o4 q4 => ?_)
      obtain ⟨f4, c4, v4⟩ := q4
      have f4' := f3'.trans f4
      have c4' : MR o4.2 T t (cr2 t T m na x') := c4
      have hv10 : kV t T m na x' + 1 ≤ 10 := by
        have fl : fi (nq t (tn t T x'.2.1) na) (m 2) ≤ m 2 := by
          rcases fi_spec (nq t (tn t T x'.2.1) na) (m 2) with ⟨a, b⟩ | ⟨a, b, d, e⟩ <;> omega
        unfold kV
        omega
      refine Ev.bind (z_readsEnd (no := kV t T m na x' + 1) c4' oa (maf _ f4') (e21 _ f4') hv10 (fun y hy => ?_) hF) (fun o5 q5 => ?_)
      · obtain ⟨y1, e1, p1⟩ := bnd_inr hy
        rw [(w3 y1 e1).1, fr_s]
      obtain ⟨f5, c5, ⟨w, ew, hw⟩, v5⟩ := q5
      have f5' := f4'.trans f5
      have c5' : MR o5.2 T t (cr3 t T m na x') := c5
      have w5 : ∀ y, cr3 t T m na x' = .inr y → w = kW t T m na x' ∧ kW t T m na x' < m 2 := fun y hy => by
        obtain ⟨y2, e2', p2⟩ := bnd_inr hy
        obtain ⟨a1, a2, a3, a4, a5⟩ := pK_inr p2
        have ew' : kW t T m na x' = fi (nq t y2 na) (m 2) - 1 := by unfold kW; rw [e2']; rfl
        have e := v5 _ y e2' p2
        rw [ew, ni_eq (by omega) (by omega)] at e
        exact ⟨by omega, by omega⟩
      rw [ew]
      refine Ev.bind (z_readsPort (v := kW t T m na x') c5' on.1 (mnf _ f5') hw w5 hF) (fun o6 q6 => ?_)
      obtain ⟨f6, c6, v6⟩ := q6
      have f6' := f5'.trans f6
      have c6' : MR o6.2 T t (cr4 t T m na x') := c6
      refine Ev.bind (z_named (w := 8) (lo := 1) (hi := 9) c6' (by omega) (by omega) (by omega) hF) (fun o7 q7 => ?_)
      obtain ⟨f7, c7, v7⟩ := q7
      have f7' := f6'.trans f7
      have c7' : MR o7.2 T t (cr6 t T m na x') := c7
      cases r : cr6 t T m na x' with
      | inl f =>
        rw [r] at c7'
        exact Ev.neg c7'.bad (Ev.some (kb _ f (f1.trans f7'.fp) c7' r))
      | inr x6 =>
        rw [r] at c7'
        obtain ⟨y1, y2, y3, y4, y5, e1, e2', e3, e4, e5, p1, p2, p3, p5, hv', hw', ew', nvw, hp, hq, o1', o2', l1, l9⟩ := cab_ok on r
        obtain ⟨he, hg, neq, on', pg, oe, le⟩ := cab_lym on r
        have n1 : vN t (cr1 t T m na x') = vR t y1.1 (y1.2.1 - y1.1) := by rw [e1]; rfl
        have n3 : vN t (cr3 t T m na x') = vR t y3.1 (y3.2.1 - y3.1) := by rw [e3]; rfl
        have n5 : vN t (cr5 t T m na x') = vR t y5.1 (y5.2.1 - y5.1) := by rw [e5]; rfl
        have ee : ((4 : Int32) * nI v) + o4.1 = nI (cE t T m na x') := by
          rw [(w3 y1 e1).1, v4 y1 y2 e1 p1, ← n1, show (4 : Int32) = nI 4 from rfl, ni_mul, nI_add]
          rfl
        have eg : ((4 : Int32) * nI w) + o6.1 = nI (cG t T m na x') := by
          rw [(w5 y3 e3).1, v6 y3 y4 e3 p3, ← n3, show (4 : Int32) = nI 4 from rfl, ni_mul, nI_add]
          rfl
        have e7 : o7.1 = nI (vN t (cr5 t T m na x')) := by rw [v7 y5 x6 e5 p5, n5]
        rw [ee, eg, e7]
        refine Ev.pos c7'.good (Ev.bind (x_lays (mnf _ f7') he hg neq) (fun h8 q8 => Ev.nm (Ev.some ?_)))
        exact kg o7.2 h8 x6 (f1.trans f7'.fp) f7' c7' (mnf _ f7') (maf _ f7') r q8.1 q8.2
  unfold f12_readsCable cableP
  have cl := ctc_le m
  by_cases full : ctc m < 15
  rotate_left
  · rw [if_neg full]
    refine Ev.pos (by rw [cz, show ctc m = 15 by omega]; rfl) (Ev.bind (z_faults (k := 3) c) (fun h1 q1 => ?_))
    have c1 : MR h1 T t (.inl (3, x.1)) := q1.2
    refine go h1 (.inl (3, x.1)) _ q1.1.fp (fun j hj => by rw [q1.1.1 69 (by omega)]; exact mn j hj) (fun v hv => by rw [q1.1.1 73 (by omega), q1.1.1 74 (by omega)]; exact ma v hv) c1 (fun h7 f e f7 c7 => ?_) (fun q => by cases q) (fun y q => by cases q)
    cases e
    exact ⟨f7, c7⟩
  · rw [if_pos full]
    refine Ev.neg (by rw [cz, show (15 : Int32) = nI 15 from rfl, ni_eq (by omega) (by omega)]; omega) ?_
    refine go h (.inr x) _ (FrP.refl h) mn ma c (fun h7 f e _ _ => by cases e) (fun _ => ⟨fun h7 f f7 c7 r => ?_, fun h6 h7 x6 f6 g6 c6 mn6 ma6 r q7 mn7 => ?_⟩) (fun y q => by cases q; rfl)
    · rw [r]; exact ⟨f7, c7⟩
    · rw [r]
      obtain ⟨he, hg, neq, on', pg, oe, le⟩ := cab_lym on r
      have m2 : lym m (cE t T m na x) (cG t T m na x) (vN t (cr5 t T m na x)) 2 = m 2 := by unfold lym; rw [if_neg (by omega), if_neg (by omega), if_neg (by omega)]
      have cn := pg.ctn on'.1.2.2.2.1 he (by rw [oe]; omega)
      have f67 : FrP h6 h7 := ⟨fun q _ b _ _ => q7.1 q b, fun j _ => by rw [q7.1 68 (by omega)]⟩
      have f78 : FrP h7 (hp_up h7 68 12 (h7 68 12 + 1)) := ⟨fun q a _ _ _ => up_kk _ _ _ _ _ a, fun j hj => up_j _ _ _ _ _ (by omega)⟩
      refine ⟨(f6.trans f67).trans f78, MR.up12 (MR.eqv c6 (q7.1 68 (by omega)) (q7.1 72 (by omega))), fun j hj => ?_, fun v hv => ?_, ?_⟩
      · rw [up_k _ _ _ _ _ _ (by omega)]; exact mn7 j hj
      · have hv'' : v < m 2 := by rw [← m2]; exact hv
        rw [up_kk _ _ _ _ _ (by omega), up_kk _ _ _ _ _ (by omega), q7.1 73 (by omega), q7.1 74 (by omega)]
        exact ma6 v hv''
      · show hp_up h7 68 12 (h7 68 12 + 1) 68 12 = nI (ct (fun e => bo (og (lym m (cE t T m na x) (cG t T m na x) (vN t (cr5 t T m na x))) e ≠ 0)) 40 / 2)
        rw [up_s, q7.1 68 (by omega), g6.2 12 (by omega), cz, nI_1, ← cn]
        unfold ctc
        congr 1
        omega
