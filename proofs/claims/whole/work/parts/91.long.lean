-- longest, gap, centre
theorem gd_no {F : Nat} {x : Int32} {a b A B : Hp → Option (Int32 × Hp)} (hF : 1000 ≤ F) (ea : ∀ h, a h = Option.bind (f11_refusalOf F x h) (fun o2 => if o2.1 = 0 then A o2.2 else some (o2.1, o2.2))) (eb : ∀ h, b h = Option.bind (f12_whyNoWays F x h) (fun o2 => if 0 ≤ o2.1 then B o2.2 else some (o2.1, o2.2)))
    (body : ∀ m kn v, OkN m → x = nI v → v < m 2 → ¬ sz (og m) v ≤ cb (og m) v → ∃ V : Int32, (∀ h, Co h m kn → Liv h m → Ev (A h) (fun o => o.1 = V ∧ Sc h o.2)) ∧ ∀ h, Co h m kn → Lb h m → Ev (B h) (fun o => o.1 = V ∧ Sc h o.2)) : Gd a b := by
  intro m kn
  by_cases on : OkN m
  rotate_left
  · exact ⟨0, fun h c => absurd c.2.2.1 on, fun h c => absurd c.2.2.1 on⟩
  have h2 := on.1.2.1
  have n1 : ¬ (nI 1 : Int32) = 0 := by decide
  by_cases nx : isN m x = false
  · refine ⟨-2, fun h c => ?_, fun h c => ?_⟩
    · rw [ea, x_refusal0 c nx]
      exact ev_bs (Ev.neg cn2 (Ev.some ⟨rfl, Sc.refl _⟩))
    · rw [eb]
      have : f12_whyNoWays F x h = some (-2, h) := by
        refine Ev.eq ?_
        unfold f12_whyNoWays
        rw [x_isNode x h2 c.2.2.2.1, nx]
        exact ev_bs (Ev.pos rfl (Ev.some rfl))
      rw [this]
      exact ev_bs (Ev.neg cn2' (Ev.some ⟨rfl, Sc.refl _⟩))
  · obtain ⟨v, hv, rfl⟩ := isN_ex nx
    have why : ∀ h, Co h m kn → Ev (f12_whyNoWays F (nI v) h) (fun o => o.1 = (if sz (og m) v ≤ cb (og m) v then mm else nI 0) ∧ Sc h o.2 ∧ Lb o.2 m) := fun h c => by
      unfold f12_whyNoWays
      rw [x_isNode _ h2 c.2.2.2.1, isN_t hv]
      refine ev_bs (Ev.neg n1 ?_)
      dsimp only
      refine Ev.bind (x_isLoop on.1 c.2.2.2.1 hv hF) (fun o ho => ?_)
      obtain ⟨o1, f1, lb⟩ := ho
      by_cases z : sz (og m) v ≤ cb (og m) v
      · refine Ev.neg (by rw [o1, if_pos z]; decide) (Ev.some ⟨?_, f1.sc (by omega), lb⟩)
        rw [if_pos z]
        rfl
      · refine Ev.pos (by rw [o1, if_neg z]; rfl) (Ev.some ⟨?_, f1.sc (by omega), lb⟩)
        rw [if_neg z]
        rfl
    by_cases z : sz (og m) v ≤ cb (og m) v
    · refine ⟨mm, fun h c => ?_, fun h c => ?_⟩
      · rw [ea, x_refusal c hv, if_pos z]
        exact ev_bs (Ev.neg cmm (Ev.some ⟨rfl, Sc.refl _⟩))
      · rw [eb]
        refine Ev.bind (why h c) (fun o ho => ?_)
        rw [if_pos z] at ho
        exact Ev.neg (by rw [ho.1]; decide) (Ev.some ⟨ho.1, ho.2.1⟩)
    · obtain ⟨V, v1, v2⟩ := body m kn v on rfl hv z
      refine ⟨V, fun h c => ?_, fun h c => ?_⟩
      · rw [ea, x_refusal c hv, if_neg z]
        exact ev_bs (Ev.pos rfl (v1 h c (c.liv hv)))
      · rw [eb]
        refine Ev.bind (why h c) (fun o ho => ?_)
        rw [if_neg z] at ho
        exact Ev.pos (by rw [ho.1]; decide) (Ev.mono (v2 o.2 (c.sc ho.2.1) ho.2.2) (fun p hp' => ⟨hp'.1, ho.2.1.trans hp'.2⟩))
noncomputable def Lg (m : Nat → Nat) (v : Nat) : Nat := mx (fun w => if bo (Cn (og m) v w) = true then Ec m w else 0) 10
theorem Ec_bus {m : Nat → Nat} (ok : OkG m) {v : Nat} (hv : v < m 2) (tr : ¬ sz (og m) v ≤ cb (og m) v) : ∀ w, w < 10 → Cn (og m) v w → ∀ hp dy, Bf m (og m) w hp dy → ec dy = Ec m w := fun w hw hc => Ec_of ok (cn_lt ok hc hv) (tr_cn ok.2.2.2.1 hc tr)
theorem Lg_le {m : Nat → Nat} (ok : OkG m) {v : Nat} (hv : v < m 2) (tr : ¬ sz (og m) v ≤ cb (og m) v) : Lg m v ≤ 200 := mx_le (fun i hi => by
  by_cases z : Cn (og m) v i
  · rw [bo_p z, if_pos rfl]
    obtain ⟨hp, dy, bf⟩ := bf0 ok (cn_lt ok z hv)
    rw [← Ec_bus ok hv tr i hi z hp dy bf]
    exact ec_le bf
  · rw [bo_f z, if_neg (by simp)]; omega)
theorem q_longest {F : Nat} (hF : 1000 ≤ F) (x : Int32) : Gd (f11_longest F x) (f12_longest F x) := by
  refine gd_no hF (A := fun h => Option.bind (f11_longestWithout F x (-1 : Int32) h) (fun o17 => some (o17.1, o17.2))) (B := fun h => Option.bind (f12_longestOf F x h) (fun o16 => some (o16.1, o16.2))) (fun h => rfl) (fun h => rfl) ?_
  rintro m kn v on rfl hv tr
  have E := Ec_bus on.1 hv tr
  refine ⟨nI (Lg m v), fun h c l => ?_, fun h c lb => ?_⟩
  · exact Ev.bind (x_clong (E := Ec m) (lx := 0) on.1 (c.cs l) hv (by omega) (by rw [cu0]; exact E) hF) (fun o ho => Ev.some ⟨ho.1, ho.2.sc (by omega)⟩)
  · exact Ev.bind (x_mlong (E := Ec m) on.1 c.2.2.2.1 hv tr E hF) (fun o ho => Ev.some ⟨ho.1, ho.2.sc (by omega)⟩)
theorem q_gap {F : Nat} (hF : 1000 ≤ F) (x : Int32) : Gd (f11_gap F x) (f12_gap F x) := by
  refine gd_no hF (A := fun h => Option.bind (f11_longestWithout F x (-1 : Int32) h) (fun o17 => Option.bind (f11_gapFor F o17.1 o17.2) (fun o20 => some (o20.1, o20.2)))) (B := fun h => Option.bind (f12_gapOf F x h) (fun o16 => some (o16.1, o16.2))) (fun h => rfl) (fun h => rfl) ?_
  rintro m kn v on rfl hv tr
  have E := Ec_bus on.1 hv tr
  refine ⟨((((2 : Int32) * nI (Lg m v)) + (5 : Int32)) + (7 : Int32)) / (8 : Int32), fun h c l => ?_, fun h c lb => ?_⟩
  · refine Ev.bind (x_clong (E := Ec m) (lx := 0) on.1 (c.cs l) hv (by omega) (by rw [cu0]; exact E) hF) (fun o ho => ?_)
    unfold f11_gapFor
    refine ev_bs (Ev.some ⟨?_, ho.2.sc (by omega)⟩)
    dsimp only
    rw [ho.1]
    rfl
  · have gp : Ev (f12_gapOf F (nI v) h) (fun o => o.1 = ((((2 : Int32) * nI (Lg m v)) + (5 : Int32)) + (7 : Int32)) / (8 : Int32) ∧ Sc h o.2) := by
      unfold f12_gapOf
      refine Ev.bind (x_mlong (E := Ec m) on.1 c.2.2.2.1 hv tr E hF) (fun o ho => Ev.some ⟨?_, ho.2.sc (by omega)⟩)
      dsimp only
      rw [ho.1]
      rfl
    exact Ev.bind gp (fun o ho => Ev.some ho)
/-- the first one with the least -/
noncomputable def bst (q : Nat → Bool) (f : Nat → Nat) : Nat → Nat
  | 0 => 0
  | n + 1 => if q n = true ∧ (bst q f n = 0 ∨ f n < f (bst q f n - 1)) then n + 1 else bst q f n
theorem bst_s (q : Nat → Bool) (f : Nat → Nat) (n : Nat) : bst q f (n + 1) = if q n = true ∧ (bst q f n = 0 ∨ f n < f (bst q f n - 1)) then n + 1 else bst q f n := rfl
theorem bst_in (q : Nat → Bool) (f : Nat → Nat) (n : Nat) : bst q f n ≤ n ∧ (bst q f n ≠ 0 → q (bst q f n - 1) = true) := by
  induction n with
  | zero => exact ⟨Nat.le_refl _, fun h => absurd rfl h⟩
  | succ n ih =>
    rw [bst_s]
    by_cases z : q n = true ∧ (bst q f n = 0 ∨ f n < f (bst q f n - 1))
    · rw [if_pos z]; exact ⟨Nat.le_refl _, fun _ => z.1⟩
    · rw [if_neg z]; exact ⟨by omega, ih.2⟩
theorem q_centre {F : Nat} (hF : 1000 ≤ F) (x : Int32) : Gd (f11_centre F x) (f12_centre F x) := by
  refine gd_no hF (A := fun h => Option.bind (ce_it (fun (st : Int32 × Int32 × Int32 × Hp) => f11_centre_b21 F x st.1 st.2.1 st.2.2.1 st.2.2.2) F ((-1 : Int32), (1000000 : Int32), (0 : Int32), h)) (fun o21 => some (o21.1, o21.2))) (B := fun h => Option.bind (ce_it (fun (st : Int32 × Int32 × Hp) => f12_centre_b17 F x st.1 st.2.1 st.2.2) F ((-1 : Int32), (0 : Int32), h)) (fun o17 => some (o17.1, o17.2))) (fun h => rfl) (fun h => rfl) ?_
  rintro m kn v on rfl hv tr
  have h2 := on.1.2.1
  have g := on.1.2.2.2.1
  have E := Ec_bus on.1 hv tr
  have eb : ∀ w, Cn (og m) v w → Ec m w ≤ 200 := fun w hc => by
    obtain ⟨hp, dy, bf⟩ := bf0 on.1 (cn_lt on.1 hc hv)
    rw [← E w (by have := cn_lt on.1 hc hv; omega) hc hp dy bf]
    exact ec_le bf
  refine ⟨fr (bst (fun w => bo (Cn (og m) v w)) (Ec m) (m 2)), fun h c l => ?_, fun h c lb => ?_⟩
  · have b := net_le c.2.1
    refine Ev.bind (P := fun o => o.1 = fr (bst (fun w => bo (Cn (og m) v w)) (Ec m) (m 2)) ∧ Sc h o.2) ?_ (fun o ho => Ev.some ho)
    refine Ev.it (I := fun i st => st.1 = fr (bst (fun w => bo (Cn (og m) v w)) (Ec m) i) ∧ st.2.1 = nI (if bst (fun w => bo (Cn (og m) v w)) (Ec m) i = 0 then 1000000 else Ec m (bst (fun w => bo (Cn (og m) v w)) (Ec m) i - 1)) ∧ st.2.2.1 = nI i ∧ Fr 40 43 h st.2.2.2) _ (m 2) ?_ F 0 _ (by omega) (by omega) ⟨rfl, rfl, rfl, Fr.refl _ _ _⟩
    rintro i ⟨x3, x4, x5, h1⟩ hi hI
    obtain ⟨rfl, rfl, rfl, f1⟩ : x3 = fr (bst (fun w => bo (Cn (og m) v w)) (Ec m) i) ∧ x4 = nI (if bst (fun w => bo (Cn (og m) v w)) (Ec m) i = 0 then 1000000 else Ec m (bst (fun w => bo (Cn (og m) v w)) (Ec m) i - 1)) ∧ x5 = nI i ∧ Fr 40 43 h h1 := hI
    have bi := bst_in (fun w => bo (Cn (og m) v w)) (Ec m) i
    have bs := bst_s (fun w => bo (Cn (og m) v w)) (Ec m) i
    show Ev (f11_centre_b21 F (nI v) (fr (bst (fun w => bo (Cn (og m) v w)) (Ec m) i)) (nI (if bst (fun w => bo (Cn (og m) v w)) (Ec m) i = 0 then 1000000 else Ec m (bst (fun w => bo (Cn (og m) v w)) (Ec m) i - 1))) (nI i) h1) _
    have c1 := c.sc (f1.sc (by omega))
    have l1 := c1.liv hv
    have n3 : h1 kn 3 = nI (m 2) := c1.2.2.2.2.1.1.2.1
    have nxt : nI i + 1 = nI (i + 1) := nI_1 _
    unfold f11_centre_b21
    refine Ev.nm ?_
    rw [c1.1, ni_cl (by omega)]
    refine Ev.grd c1.2.1 ?_
    by_cases hin : m 2 ≤ i
    · refine Ev.pos (by rw [n3]; simp (disch := omega) only [up_s, up_k, up_j, mm_neg, mm_def, ni_lt, ni_le, ni_eq, ni_mm, mm_ni, ni_lt_mm, ni_le_mm, mm_lt_ni, mm_le_ni, mm_lt_mm, mm_le_mm, ni_cl, ni_in, nI_add, ni_mul, ni_div, ni_rem, ni_rem2, fr_sub, fr_mm, fr_ge0, fr_lt0, fr_inj, l32_0, l32_1, l32_2, l32_3, l32_4, l32_5, l32_6, l32_7, l32_8, l32_9, l32_10, l32_11, l32_12, l32_13, l32_14, l32_15, l32_16, l32_20, l32_24, l32_25, l32_26, l32_31, l32_32, l32_34, l32_35, l32_39, l32_40, l32_44, l32_45, l32_46, l32_47, l32_48, l32_49, l32_57, l32_58, l32_59, l32_63, l32_64, l32_85, l32_90, l32_97, l32_99, l32_100, l32_110, l32_112, l32_122, l32_124, l32_125, l32_255, l32_680, l32_699, l32_700, l32_999, l32_2500, l32_99999, l32_100000, l32_1000000, if_true, if_false, ite_true, ite_false, ce_nm, Option.bind, if_pos, if_neg]; exact hin) (Ev.some ⟨?_, f1.sc (by omega)⟩)
      have : i = m 2 := by omega
      rw [this]
    · refine Ev.neg (by rw [n3]; simp (disch := omega) only [up_s, up_k, up_j, mm_neg, mm_def, ni_lt, ni_le, ni_eq, ni_mm, mm_ni, ni_lt_mm, ni_le_mm, mm_lt_ni, mm_le_ni, mm_lt_mm, mm_le_mm, ni_cl, ni_in, nI_add, ni_mul, ni_div, ni_rem, ni_rem2, fr_sub, fr_mm, fr_ge0, fr_lt0, fr_inj, l32_0, l32_1, l32_2, l32_3, l32_4, l32_5, l32_6, l32_7, l32_8, l32_9, l32_10, l32_11, l32_12, l32_13, l32_14, l32_15, l32_16, l32_20, l32_24, l32_25, l32_26, l32_31, l32_32, l32_34, l32_35, l32_39, l32_40, l32_44, l32_45, l32_46, l32_47, l32_48, l32_49, l32_57, l32_58, l32_59, l32_63, l32_64, l32_85, l32_90, l32_97, l32_99, l32_100, l32_110, l32_112, l32_122, l32_124, l32_125, l32_255, l32_680, l32_699, l32_700, l32_999, l32_2500, l32_99999, l32_100000, l32_1000000, if_true, if_false, ite_true, ite_false, ce_nm, Option.bind, if_pos, if_neg]; exact hin) ?_
      rw [x_areOne on.1 (c1.cs l1) hv (by omega)]
      refine ev_bs ?_
      dsimp only
      by_cases q : Cn (og m) v i
      · refine Ev.neg (by rw [bo_p q]; decide) (Ev.nm ?_)
        rw [c1.1, ni_cl (by omega)]
        refine Ev.grd c1.2.1 ?_
        rw [show (-1 : Int32) = fr 0 from rfl]
        refine Ev.bind (x_start c1.2.1 on.1 c1.2.2.2.2.1.1 (by omega : (0 : Nat) ≤ 40) (by omega) hF) (fun h5 hh => ?_)
        obtain ⟨fw, s, qq, hp, dy, B, bf⟩ := hh
        rw [cu0] at bf
        rw [x_cfar B bf hF, E i (by omega) q hp dy bf]
        refine ev_bs ?_
        dsimp only
        have f5 := f1.trans fw.fr
        have ebi := eb i q
        rw [bo_p q] at bs
        generalize hb : bst (fun w => bo (Cn (og m) v w)) (Ec m) i = b0 at bi bs
        have xb : (if b0 = 0 then 1000000 else Ec m (b0 - 1)) ≤ 1000000 := by
          by_cases y : b0 = 0
          · rw [if_pos y]; omega
          · rw [if_neg y]
            have := eb (b0 - 1) (bo_t.mp (bi.2 y))
            omega
        by_cases y : (if b0 = 0 then 1000000 else Ec m (b0 - 1)) ≤ Ec m i
        · have ny : ¬ (true = true ∧ (b0 = 0 ∨ Ec m i < Ec m (b0 - 1))) := by
            by_cases y0 : b0 = 0
            · rw [if_pos y0] at y; omega
            · rw [if_neg y0] at y; omega
          rw [if_neg ny] at bs
          refine Ev.pos (by rw [ni_le (by omega) (by omega)]; exact y) (Ev.some ⟨by omega, ?_, ?_, nxt, f5⟩)
          · dsimp only; rw [bs]
          · dsimp only; rw [bs]
        · have ny : true = true ∧ (b0 = 0 ∨ Ec m i < Ec m (b0 - 1)) := by
            refine ⟨rfl, ?_⟩
            by_cases y0 : b0 = 0
            · exact Or.inl y0
            · rw [if_neg y0] at y; omega
          rw [if_pos ny] at bs
          refine Ev.neg (by rw [ni_le (by omega) (by omega)]; exact y) (Ev.some ⟨by omega, ?_, ?_, nxt, f5⟩)
          · dsimp only; rw [bs, fr_s]
          · dsimp only; rw [bs, if_neg (by omega)]; rfl
      · rw [bo_f q, if_neg (by simp)] at bs
        refine Ev.pos (by rw [bo_f q]; rfl) (Ev.some ⟨by omega, ?_, ?_, nxt, f1⟩)
        · dsimp only; rw [bs]
        · dsimp only; rw [bs]
  · refine Ev.bind (P := fun o => o.1 = fr (bst (fun w => bo (Cn (og m) v w)) (Ec m) (m 2)) ∧ Sc h o.2) ?_ (fun o ho => Ev.some ho)
    refine Ev.it (I := fun i st => st.1 = fr (bst (fun w => bo (Cn (og m) v w)) (Ec m) i) ∧ st.2.1 = nI i ∧ Fr 84 85 h st.2.2) _ (m 2) ?_ F 0 _ (by omega) (by omega) ⟨rfl, rfl, Fr.refl _ _ _⟩
    rintro i ⟨x3, x4, h1⟩ hi hI
    obtain ⟨rfl, rfl, f1⟩ : x3 = fr (bst (fun w => bo (Cn (og m) v w)) (Ec m) i) ∧ x4 = nI i ∧ Fr 84 85 h h1 := hI
    have bi := bst_in (fun w => bo (Cn (og m) v w)) (Ec m) i
    have bs := bst_s (fun w => bo (Cn (og m) v w)) (Ec m) i
    show Ev (f12_centre_b17 F (nI v) (fr (bst (fun w => bo (Cn (og m) v w)) (Ec m) i)) (nI i) h1) _
    have c1 := c.sc (f1.sc (by omega))
    have cm1 := c1.2.2.2.1
    have n3 : h1 69 ((2 : Int32)).toNatClampNeg = nI (m 2) := cm1 2 (by omega)
    have nxt : nI i + 1 = nI (i + 1) := nI_1 _
    have lb1 : ∀ u, u < 10 → h1 75 u = nI (lst (og m) u) := fun u hu => by rw [f1 75 (by omega)]; exact lb u hu
    unfold f12_centre_b17
    by_cases hin : m 2 ≤ i
    · refine Ev.pos (by rw [n3]; simp (disch := omega) only [up_s, up_k, up_j, mm_neg, mm_def, ni_lt, ni_le, ni_eq, ni_mm, mm_ni, ni_lt_mm, ni_le_mm, mm_lt_ni, mm_le_ni, mm_lt_mm, mm_le_mm, ni_cl, ni_in, nI_add, ni_mul, ni_div, ni_rem, ni_rem2, fr_sub, fr_mm, fr_ge0, fr_lt0, fr_inj, l32_0, l32_1, l32_2, l32_3, l32_4, l32_5, l32_6, l32_7, l32_8, l32_9, l32_10, l32_11, l32_12, l32_13, l32_14, l32_15, l32_16, l32_20, l32_24, l32_25, l32_26, l32_31, l32_32, l32_34, l32_35, l32_39, l32_40, l32_44, l32_45, l32_46, l32_47, l32_48, l32_49, l32_57, l32_58, l32_59, l32_63, l32_64, l32_85, l32_90, l32_97, l32_99, l32_100, l32_110, l32_112, l32_122, l32_124, l32_125, l32_255, l32_680, l32_699, l32_700, l32_999, l32_2500, l32_99999, l32_100000, l32_1000000, if_true, if_false, ite_true, ite_false, ce_nm, Option.bind, if_pos, if_neg]; exact hin) (Ev.some ⟨?_, f1.sc (by omega)⟩)
      have : i = m 2 := by omega
      rw [this]
    · refine Ev.neg (by rw [n3]; simp (disch := omega) only [up_s, up_k, up_j, mm_neg, mm_def, ni_lt, ni_le, ni_eq, ni_mm, mm_ni, ni_lt_mm, ni_le_mm, mm_lt_ni, mm_le_ni, mm_lt_mm, mm_le_mm, ni_cl, ni_in, nI_add, ni_mul, ni_div, ni_rem, ni_rem2, fr_sub, fr_mm, fr_ge0, fr_lt0, fr_inj, l32_0, l32_1, l32_2, l32_3, l32_4, l32_5, l32_6, l32_7, l32_8, l32_9, l32_10, l32_11, l32_12, l32_13, l32_14, l32_15, l32_16, l32_20, l32_24, l32_25, l32_26, l32_31, l32_32, l32_34, l32_35, l32_39, l32_40, l32_44, l32_45, l32_46, l32_47, l32_48, l32_49, l32_57, l32_58, l32_59, l32_63, l32_64, l32_85, l32_90, l32_97, l32_99, l32_100, l32_110, l32_112, l32_122, l32_124, l32_125, l32_255, l32_680, l32_699, l32_700, l32_999, l32_2500, l32_99999, l32_100000, l32_1000000, if_true, if_false, ite_true, ite_false, ce_nm, Option.bind, if_pos, if_neg]; exact hin) (Ev.grd (ni_in (by omega) (by omega)) (Ev.grd (ni_in (by omega) (by omega)) ?_))
      rw [ni_cl (by omega : i < 2147483648), ni_cl (by omega : v < 2147483648)]
      have l1 := (lst_cn (o := og m) (v := i) (by omega)).2
      have l2 := (lst_cn (o := og m) (v := v) (by omega)).2
      by_cases q : Cn (og m) v i
      · have e : lst (og m) i = lst (og m) v := (lst_iff g (by omega) (by omega)).mpr (q.symm g)
        refine Ev.pos (by rw [lb1 i (by omega), lb1 v (by omega), e]) ?_
        rw [bo_p q] at bs
        generalize hb : bst (fun w => bo (Cn (og m) v w)) (Ec m) i = b0 at bi bs
        by_cases y0 : b0 = 0
        · rw [if_pos ⟨rfl, Or.inl y0⟩] at bs
          refine Ev.pos (by rw [y0]; rfl) (Ev.some ⟨by omega, ?_, nxt, f1⟩)
          dsimp only
          rw [bs, fr_s]
        · have bc := bo_t.mp (bi.2 y0)
          have b2 := cn_lt on.1 bc hv
          obtain ⟨hp, dy, bf⟩ := bf0 on.1 (show i < m 2 by omega)
          obtain ⟨hp', dy', bf'⟩ := bf0 on.1 b2
          have ei := eb i q
          have ebb := eb _ bc
          rw [fr_p (by omega)]
          refine Ev.neg (by simp (disch := omega) only [up_s, up_k, up_j, mm_neg, mm_def, ni_lt, ni_le, ni_eq, ni_mm, mm_ni, ni_lt_mm, ni_le_mm, mm_lt_ni, mm_le_ni, mm_lt_mm, mm_le_mm, ni_cl, ni_in, nI_add, ni_mul, ni_div, ni_rem, ni_rem2, fr_sub, fr_mm, fr_ge0, fr_lt0, fr_inj, l32_0, l32_1, l32_2, l32_3, l32_4, l32_5, l32_6, l32_7, l32_8, l32_9, l32_10, l32_11, l32_12, l32_13, l32_14, l32_15, l32_16, l32_20, l32_24, l32_25, l32_26, l32_31, l32_32, l32_34, l32_35, l32_39, l32_40, l32_44, l32_45, l32_46, l32_47, l32_48, l32_49, l32_57, l32_58, l32_59, l32_63, l32_64, l32_85, l32_90, l32_97, l32_99, l32_100, l32_110, l32_112, l32_122, l32_124, l32_125, l32_255, l32_680, l32_699, l32_700, l32_999, l32_2500, l32_99999, l32_100000, l32_1000000, if_true, if_false, ite_true, ite_false, ce_nm, Option.bind, if_pos, if_neg]; exact id) (Ev.bind (x_mfar on.1 cm1 (by omega) bf (tr_cn g q tr) hF) (fun o ho => ?_))
          have c5 := c1.sc (ho.2.sc (by omega))
          refine Ev.bind (x_mfar on.1 c5.2.2.2.1 b2 bf' (tr_cn g bc tr) hF) (fun p hp5 => ?_)
          have f5 := (f1.trans ho.2).trans hp5.2
          have o1 := ho.1
          have p1 := hp5.1
          rw [E i (by omega) q hp dy bf] at o1
          rw [E _ (by omega) bc hp' dy' bf'] at p1
          by_cases y : Ec m (b0 - 1) ≤ Ec m i
          · rw [if_neg (by omega)] at bs
            refine Ev.pos (by rw [o1, p1, ni_le (by omega) (by omega)]; exact y) (Ev.some ⟨by omega, ?_, nxt, f5⟩)
            dsimp only
            rw [bs, fr_p (by omega)]
          · rw [if_pos ⟨rfl, by omega⟩] at bs
            refine Ev.neg (by rw [o1, p1, ni_le (by omega) (by omega)]; exact y) (Ev.some ⟨by omega, ?_, nxt, f5⟩)
            dsimp only
            rw [bs, fr_s]
      · rw [bo_f q, if_neg (by simp)] at bs
        refine Ev.neg (by rw [lb1 i (by omega), lb1 v (by omega), ni_eq (by omega) (by omega)]; exact fun w => q (((lst_iff g (by omega) (by omega)).mp w).symm g)) (Ev.some ⟨by omega, ?_, nxt, f1⟩)
        dsimp only
        rw [bs]
