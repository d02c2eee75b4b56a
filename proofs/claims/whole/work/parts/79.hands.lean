-- naming: the reference's handsOn
def FrN (h h' : Hp) : Prop := (∀ c, c ≠ 83 → c ≠ 68 → h' c = h c) ∧ ∀ j, j ≠ 24 → h' 68 j = h 68 j
theorem FrN.refl (h : Hp) : FrN h h := ⟨fun _ _ _ => rfl, fun _ _ => rfl⟩
theorem FrN.trans {h1 h2 h3 : Hp} (a : FrN h1 h2) (b : FrN h2 h3) : FrN h1 h3 := ⟨fun c q1 q2 => (b.1 c q1 q2).trans (a.1 c q1 q2), fun j q => (b.2 j q).trans (a.2 j q)⟩
theorem FrN.mn {h h' : Hp} {m : Nat → Nat} (c : MN h m) (f : FrN h h') : MN h' m := fun j hj => by rw [f.1 69 (by omega) (by omega)]; exact c j hj
def RN (h : Hp) (st : Sn) : Prop := h 68 24 = nI st.1 ∧ ∀ w, w < 10 → st.2 w ≠ 0 → h 83 w = fr (st.2 w)
theorem x_handsOn {m P : Nat → Nat} {r F : Nat} {hp : Nat → Nat} (ok : OkG m) (T : Tr (og m) P r hp) (hF : 1000 ≤ F) : ∀ d v st h, Cn (og m) r v → 11 ≤ hp v + d → MN h m → (∀ v, v < m 2 → h 82 v = fr (P v)) → RN h st → Ev (f12_handsOn F d (nI v) h) (fun h' => FrN h h' ∧ RN h' (pn (og m) P d v st)) := by
  intro d
  induction d with
  | zero =>
    intro v st h hv hd
    have := (T.2.2.2.2.2.1 v (T.lt hv) hv).2
    omega
  | succ d ih =>
    intro v st h hv hd c cp rn
    have hv10 := T.lt hv
    have po := T.2.1
    have e1 : (4 : Int32) * nI v = nI (4 * v) := by rw [l32_4, ni_mul]
    have e2 : nI (4 * v) + (4 : Int32) = nI (4 * v + 4) := by rw [l32_4, nI_add]
    show Ev (Option.bind (ce_it (fun (st : Int32 × Hp) => f12_handsOn_b4 F (f12_handsOn F d) (nI v) st.1 st.2) F ((4 : Int32) * nI v, h)) _) _
    rw [e1]
    refine Ev.bind (P := fun h' => FrN h h' ∧ RN h' (pl (og m) P (pn (og m) P d) v 4 st)) ?_ (fun h1 hh => ?_)
    · refine Ev.it (I := fun p s => s.1 = nI (4 * v + p) ∧ FrN h s.2 ∧ RN s.2 (pl (og m) P (pn (og m) P d) v p st)) _ 4 ?_ F 0 _ (by omega) (by omega) ⟨rfl, FrN.refl h, rn⟩
      rintro p ⟨x, h1⟩ hp4 hI
      obtain ⟨rfl, f1, r1⟩ : x = nI (4 * v + p) ∧ FrN h h1 ∧ RN h1 (pl (og m) P (pn (og m) P d) v p st) := hI
      show Ev (f12_handsOn_b4 F (f12_handsOn F d) (nI v) (nI (4 * v + p)) h1) _
      have c1 := FrN.mn c f1
      have cp1 : ∀ v, v < m 2 → h1 82 v = fr (P v) := fun v hv => by rw [f1.1 82 (by omega) (by omega)]; exact cp v hv
      have nxt : nI (4 * v + p) + 1 = nI (4 * v + (p + 1)) := nI_1 _
      unfold f12_handsOn_b4
      rw [e1, e2]
      by_cases hin : 4 ≤ p
      · refine Ev.pos (by simp (disch := omega) only [up_s, up_k, up_j, mm_neg, mm_def, ni_lt, ni_le, ni_eq, ni_mm, mm_ni, ni_lt_mm, ni_le_mm, mm_lt_ni, mm_le_ni, mm_lt_mm, mm_le_mm, ni_cl, ni_in, nI_add, ni_mul, ni_div, ni_rem, ni_rem2, fr_sub, fr_mm, fr_ge0, fr_lt0, fr_inj, l32_0, l32_1, l32_2, l32_3, l32_4, l32_5, l32_6, l32_7, l32_8, l32_9, l32_10, l32_11, l32_12, l32_13, l32_14, l32_15, l32_16, l32_20, l32_24, l32_25, l32_26, l32_31, l32_32, l32_34, l32_35, l32_39, l32_40, l32_44, l32_45, l32_46, l32_47, l32_48, l32_49, l32_57, l32_58, l32_59, l32_63, l32_64, l32_85, l32_90, l32_97, l32_99, l32_100, l32_110, l32_112, l32_122, l32_124, l32_125, l32_255, l32_680, l32_699, l32_700, l32_999, l32_2500, l32_99999, l32_100000, l32_1000000, if_true, if_false, ite_true, ite_false, ce_nm, Option.bind, if_pos, if_neg]; omega) (Ev.some ⟨f1, ?_⟩)
        have : p = 4 := by omega
        rw [this] at r1
        exact r1
      · refine Ev.neg (by simp (disch := omega) only [up_s, up_k, up_j, mm_neg, mm_def, ni_lt, ni_le, ni_eq, ni_mm, mm_ni, ni_lt_mm, ni_le_mm, mm_lt_ni, mm_le_ni, mm_lt_mm, mm_le_mm, ni_cl, ni_in, nI_add, ni_mul, ni_div, ni_rem, ni_rem2, fr_sub, fr_mm, fr_ge0, fr_lt0, fr_inj, l32_0, l32_1, l32_2, l32_3, l32_4, l32_5, l32_6, l32_7, l32_8, l32_9, l32_10, l32_11, l32_12, l32_13, l32_14, l32_15, l32_16, l32_20, l32_24, l32_25, l32_26, l32_31, l32_32, l32_34, l32_35, l32_39, l32_40, l32_44, l32_45, l32_46, l32_47, l32_48, l32_49, l32_57, l32_58, l32_59, l32_63, l32_64, l32_85, l32_90, l32_97, l32_99, l32_100, l32_110, l32_112, l32_122, l32_124, l32_125, l32_255, l32_680, l32_699, l32_700, l32_999, l32_2500, l32_99999, l32_100000, l32_1000000, if_true, if_false, ite_true, ite_false, ce_nm, Option.bind, if_pos, if_neg]; omega) ?_
        rw [x_isChild ok c1 po cp1 (by omega)]
        refine ev_bs ?_
        dsimp only
        have ps := pl_s (og m) P (pn (og m) P d) v p st
        cases hch : ch (og m) P (4 * v + p) with
        | false =>
          rw [hch, if_neg (by simp)] at ps
          refine Ev.pos (by rw [if_neg (by simp)]; rfl) (Ev.some ⟨by omega, nxt, f1, ?_⟩)
          dsimp only
          rw [ps]
          exact r1
        | true =>
          rw [hch, if_pos rfl] at ps
          have ev : (4 * v + p) / 4 = v := by omega
          obtain ⟨c1', c2', c3', c4', c5'⟩ := T.chn (e := 4 * v + p) (by omega) (by rw [ev]; exact hv) hch
          rw [ev] at c4'
          have h0 := (ch_t.mp hch).1
          have hog := og_le ok.2.2.2.1 (e := 4 * v + p) (by omega)
          refine Ev.neg (by rw [if_pos rfl]; decide) ?_
          rw [x_otherN c1 (by omega) h0]
          refine ev_bs ?_
          dsimp only
          rw [l32_4, ni_div (by omega) (by omega) (by omega)]
          refine Ev.bind (ih _ _ h1 c1' (by omega) c1 cp1 r1) (fun h2 hh => Ev.some ⟨by omega, nxt, f1.trans hh.1, ?_⟩)
          dsimp only
          rw [ps]
          exact hh.2
    · obtain ⟨f1, r1⟩ := hh
      rw [pn_s]
      generalize pl (og m) P (pn (og m) P d) v 4 st = s1 at r1
      refine Ev.grd (ni_in (by omega) hv10) (Ev.nm (Ev.nm (Ev.some ⟨f1.trans ⟨fun c q1 q2 => ?_, fun j hj => ?_⟩, ?_, fun w hw hn => ?_⟩)))
      · rw [up_kk _ _ _ _ _ q2, up_kk _ _ _ _ _ q1]
      · rw [up_j _ _ _ _ _ hj, up_k _ _ _ _ _ _ (by omega)]
      · rw [up_s, up_k _ _ _ _ _ _ (by omega), r1.1]
        exact nI_1 _
      · rw [ni_cl (by omega), up_k _ _ _ _ _ _ (by omega)]
        dsimp only at hn ⊢
        by_cases z : w = v
        · rw [z, up_s, un_s, fr_s, r1.1]
        · rw [un_n z] at hn ⊢
          rw [up_j _ _ _ _ _ z]
          exact r1.2 w hw hn
/-- the numbers don't hang on what was there -/
theorem pn_ind (o P : Nat → Nat) : ∀ f v (s s' : Sn), s.1 = s'.1 → (pn o P f v s).1 = (pn o P f v s').1 ∧ ∀ w, (pn o P f v s).2 w = (pn o P f v s').2 w ∨ ((pn o P f v s).2 w = s.2 w ∧ (pn o P f v s').2 w = s'.2 w) := by
  intro f
  induction f with
  | zero => intro v s s' h; exact ⟨h, fun w => Or.inr ⟨rfl, rfl⟩⟩
  | succ f ih =>
    intro v s s' h
    have cl : ∀ p, (pl o P (pn o P f) v p s).1 = (pl o P (pn o P f) v p s').1 ∧ ∀ w, (pl o P (pn o P f) v p s).2 w = (pl o P (pn o P f) v p s').2 w ∨ ((pl o P (pn o P f) v p s).2 w = s.2 w ∧ (pl o P (pn o P f) v p s').2 w = s'.2 w) := by
      intro p
      induction p with
      | zero => exact ⟨h, fun w => Or.inr ⟨rfl, rfl⟩⟩
      | succ p ihp =>
        rw [pl_s, pl_s]
        cases hch : ch o P (4 * v + p) with
        | false =>
          rw [if_neg (by simp), if_neg (by simp)]
          exact ihp
        | true =>
          rw [if_pos rfl, if_pos rfl]
          have q := ih ((o (4 * v + p) - 1) / 4) _ _ ihp.1
          refine ⟨q.1, fun w => ?_⟩
          rcases q.2 w with a | ⟨a, b⟩
          · exact Or.inl a
          · rw [a, b]
            exact ihp.2 w
    rw [pn_s, pn_s]
    have c4 := cl 4
    refine ⟨by dsimp only; rw [c4.1], fun w => ?_⟩
    dsimp only
    by_cases z : w = v
    · rw [z, un_s, un_s, c4.1]; exact Or.inl rfl
    · rw [un_n z, un_n z]; exact c4.2 w
def ids (o P : Nat → Nat) (r : Nat) : Nat → Nat := (pn o P 12 r (0, fun _ => 0)).2
theorem ids_spec {o P : Nat → Nat} {r : Nat} {hp : Nat → Nat} (T : Tr o P r hp) : (∀ w, Cn o r w → 1 ≤ ids o P r w ∧ ids o P r w ≤ (pn o P 12 r (0, fun _ => 0)).1) ∧ (∀ j, 1 ≤ j → j ≤ (pn o P 12 r (0, fun _ => 0)).1 → ∃ w, Cn o r w ∧ ids o P r w = j) ∧ (∀ w w', Cn o r w → Cn o r w' → ids o P r w = ids o P r w' → w = w') ∧ ids o P r r = (pn o P 12 r (0, fun _ => 0)).1 ∧ ∀ w, Cn o r w → w ≠ r → ids o P r w < ids o P r (pr o P w) := by
  have h1 := T.2.2.2.2.1
  obtain ⟨⟨a1, a2, a3, a4, a5, a6⟩, b, c⟩ := pn_spec T 12 r (0, fun _ => 0) (Cn.refl _ _) (by omega)
  refine ⟨fun w hw => ?_, fun j h1 h2 => ?_, fun w w' hw hw' he => a5 w w' ⟨hw, T.all hw⟩ ⟨hw', T.all hw'⟩ he, b, fun w hw hn => c w hw (T.all hw) hn⟩
  · have := a3 w ⟨hw, T.all hw⟩
    exact ⟨this.1, this.2⟩
  · obtain ⟨w, x, y⟩ := a4 j (by dsimp only; omega) h2
    exact ⟨w, x.1, y⟩
theorem ct_tt (n : Nat) : ct (fun _ => true) n = n := by
  induction n with
  | zero => rfl
  | succ n ih => rw [ct_succ, ih]; rfl
theorem ids_sz {o P : Nat → Nat} {r : Nat} {hp : Nat → Nat} (T : Tr o P r hp) : (pn o P 12 r (0, fun _ => 0)).1 = sz o r := by
  obtain ⟨a, b, c, d, e⟩ := ids_spec T
  generalize (pn o P 12 r (0, fun _ => 0)).1 = n at a b d
  unfold sz
  apply Nat.le_antisymm
  · have := ct_inj (p := fun _ => true) (q := nb o r) (fun j => fi (fun w => bo (Cn o r w ∧ ids o P r w = j + 1)) 10 - 1) (n := n) (k := 10) (fun i hi _ => by
      obtain ⟨w, w1, w2⟩ := b (i + 1) (by omega) (by omega)
      have hw := T.lt w1
      rcases fi_spec (fun w => bo (Cn o r w ∧ ids o P r w = i + 1)) 10 with ⟨x1, x2⟩ | ⟨x1, x2, x3, x4⟩
      · have := x2 w hw
        rw [bo_p ⟨w1, w2⟩] at this
        exact absurd this (by simp)
      · exact ⟨by omega, bo_p (bo_t.mp x3).1⟩) (fun i j hi hj _ _ hij => by
      obtain ⟨w, w1, w2⟩ := b (i + 1) (by omega) (by omega)
      obtain ⟨u, u1, u2⟩ := b (j + 1) (by omega) (by omega)
      have e1 : fi (fun w => bo (Cn o r w ∧ ids o P r w = i + 1)) 10 = w + 1 := fi_one (T.lt w1) (bo_p ⟨w1, w2⟩) (fun x hx q => by
        obtain ⟨q1, q2⟩ := bo_t.mp q
        exact c x w q1 w1 (by omega))
      have e2 : fi (fun w => bo (Cn o r w ∧ ids o P r w = j + 1)) 10 = u + 1 := fi_one (T.lt u1) (bo_p ⟨u1, u2⟩) (fun x hx q => by
        obtain ⟨q1, q2⟩ := bo_t.mp q
        exact c x u q1 u1 (by omega))
      rw [e1, e2] at hij
      have : w = u := by omega
      rw [this] at w2
      omega)
    rw [ct_tt] at this
    exact this
  · have := ct_inj (p := nb o r) (q := fun _ => true) (fun w => ids o P r w - 1) (n := 10) (k := n) (fun i hi h => by
      have := a i (bo_t.mp h)
      exact ⟨by omega, rfl⟩) (fun i j hi hj h1 h2 he => by
      have x := a i (bo_t.mp h1)
      have y := a j (bo_t.mp h2)
      exact c i j (bo_t.mp h1) (bo_t.mp h2) (by omega))
    rw [ct_tt] at this
    exact this
