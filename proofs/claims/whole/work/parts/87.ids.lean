-- id, named, depth, below
theorem Sc.up68 {h : Hp} {j : Nat} {v : Int32} (hj : j ≠ 4 ∧ j ≠ 5 ∧ j ≠ 6 ∧ j ≠ 29) : Sc h (hp_up h 68 j v) := ⟨fun c hc => up_kk _ _ _ _ _ (by omega), fun i hi => up_j _ _ _ _ _ (by omega)⟩
theorem FrN.sc {h h' : Hp} (f : FrN h h') : Sc h h' := ⟨fun c hc => f.1 c (by omega) (by omega), fun j hj => f.2 j (by omega)⟩
theorem x_laysIds {m : Nat → Nat} {kn v r F : Nat} {hp : Nat → Nat} {h : Hp} (c : Co h m kn) (tf : Tf m v r hp) (mf : MF h m (sM m)) (hF : 1000 ≤ F) : Ev (f12_laysIds F (nI v) h) (fun h' => Sc h h' ∧ MF h' m (sM m) ∧ Lb h' m ∧ h' 68 24 = nI (sz (og m) r) ∧ ∀ w, Cn (og m) r w → h' 83 w = fr (ids (og m) (Pf m (sM m)) r w)) := by
  have on := c.2.2.1
  obtain ⟨hv, hr, hc, hR, T, hfi, tr⟩ := tf
  have h2 := on.1.2.1
  have hp1 := T.2.2.2.2.1
  unfold f12_laysIds
  refine Ev.nm ?_
  obtain ⟨h1, e1⟩ : ∃ h1, h1 = hp_up h 68 24 (0 : Int32) := ⟨_, rfl⟩
  rw [← e1]
  have k1 : ∀ q, q ≠ 68 → h1 q = h q := fun q hq => by rw [e1]; exact up_kk _ _ _ _ _ hq
  have s1 : Sc h h1 := by rw [e1]; exact Sc.up68 (by omega)
  have c1 := c.sc s1
  have mf1 := mf.eqv (h' := h1) (fun q q1 q2 => k1 q (by omega))
  have z1 : h1 68 24 = nI 0 := by rw [e1, up_s]; rfl
  refine Ev.bind (x_rootOf on.1 c1.2.2.2.1 (fun v hv => (mf1.el hv).2.1) on.rb hv hF) (fun o ho => ?_)
  obtain ⟨o1, f2, lb⟩ := ho
  have mf2 := mf1.eqv (h' := o.2) (fun q q1 q2 => f2 q (by omega))
  rw [o1, hfi, fr_s]
  refine Ev.bind (x_handsOn on.1 T hF 12 r (0, fun _ => 0) o.2 (Cn.refl _ _) (by omega) (c1.2.2.2.1.fr f2 (by omega)) (fun v hv => (mf2.el hv).2.2.2) ⟨by rw [f2 68 (by omega)]; exact z1, fun w hw q => absurd rfl q⟩) (fun h3 hh => Ev.some ⟨(s1.trans (f2.sc (by omega))).trans hh.1.sc, mf2.eqv (fun q q1 q2 => hh.1.1 q (by omega) (by omega)), fun u hu => by rw [hh.1.1 75 (by omega) (by omega)]; exact lb u hu, ?_, fun w hw => ?_⟩)
  · rw [hh.2.1, ids_sz T]
  · have := (ids_spec T).1 w hw
    exact hh.2.2 w (T.lt hw) (by unfold ids at this; omega)
theorem q_id {F : Nat} (hF : 1000 ≤ F) (x : Int32) : Gd (f11_id F x) (f12_id F x) := by
  refine gd_ref hF (A := fun h => if ce_in x 10 = true then some (h 63 (x).toNatClampNeg, h) else none) (B := fun h => Option.bind (f12_laysIds F x h) (fun o14 => if ce_in x 10 = true then some (o14 83 (x).toNatClampNeg, o14) else none)) (fun h => rfl) (fun h => rfl) ?_
  rintro m kn v r hp on rfl tf
  have tf' := tf
  obtain ⟨hv, hr, hc, hR, T, hfi, tr⟩ := tf
  have hv10 := T.lt hc
  refine ⟨fr (ids (og m) (Pf m (sM m)) r v), fun h c l => ?_, fun h c mf lb => ?_⟩
  · refine Ev.grd (ni_in (by omega) hv10) (Ev.some ⟨?_, Sc.refl _⟩)
    rw [ni_cl (by omega)]
    exact ((l.2.2 r hr hR).1 v hc).1
  · refine Ev.bind (x_laysIds c tf' mf hF) (fun h1 hh => Ev.grd (ni_in (by omega) hv10) (Ev.some ⟨?_, hh.1⟩))
    rw [ni_cl (by omega)]
    exact hh.2.2.2.2 v hc
theorem x_withId {m P : Nat → Nat} {v r F : Nat} {hp : Nat → Nat} {h : Hp} (y : Int32) (ok : OkG m) (c : MN h m) (lb : Lb h m) (T : Tr (og m) P r hp) (hv : v < m 2) (hc : Cn (og m) r v) (hid : ∀ w, Cn (og m) r w → h 83 w = fr (ids (og m) P r w)) (hF : 1000 ≤ F) : f12_withId F (nI v) y h = some (fr (fi (fun w => bo (Cn (og m) r w ∧ y = fr (ids (og m) P r w))) (m 2)), h) := by
  have h2 := ok.2.1
  have g := ok.2.2.2.1
  unfold f12_withId
  have L := find_it (B := fun st => f12_withId_b2 F (nI v) y st.1 st.2) (fun w => bo (Cn (og m) r w ∧ y = fr (ids (og m) P r w))) (fun w => (nI w, h)) (m 2) h (F := F) (by omega) (fun i hi hb => by
    show f12_withId_b2 F (nI v) y (nI i) h = _
    have nxt : nI i + 1 = nI (i + 1) := nI_1 _
    have c2 : h 69 ((2 : Int32)).toNatClampNeg = nI (m 2) := c 2 (by omega)
    refine Ev.eq' ?_
    unfold f12_withId_b2
    by_cases z : i = m 2
    · refine Ev.pos (by rw [c2, z]; simp (disch := omega) only [up_s, up_k, up_j, mm_neg, mm_def, ni_lt, ni_le, ni_eq, ni_mm, mm_ni, ni_lt_mm, ni_le_mm, mm_lt_ni, mm_le_ni, mm_lt_mm, mm_le_mm, ni_cl, ni_in, nI_add, ni_mul, ni_div, ni_rem, ni_rem2, fr_sub, fr_mm, fr_ge0, fr_lt0, fr_inj, l32_0, l32_1, l32_2, l32_3, l32_4, l32_5, l32_6, l32_7, l32_8, l32_9, l32_10, l32_11, l32_12, l32_13, l32_14, l32_15, l32_16, l32_20, l32_24, l32_25, l32_26, l32_31, l32_32, l32_34, l32_35, l32_39, l32_40, l32_44, l32_45, l32_46, l32_47, l32_48, l32_49, l32_57, l32_58, l32_59, l32_63, l32_64, l32_85, l32_90, l32_97, l32_99, l32_100, l32_110, l32_112, l32_122, l32_124, l32_125, l32_255, l32_680, l32_699, l32_700, l32_999, l32_2500, l32_99999, l32_100000, l32_1000000, if_true, if_false, ite_true, ite_false, ce_nm, Option.bind, if_pos, if_neg]; exact Nat.le_refl _) (Ev.some ?_)
      rw [if_pos z]
    · refine Ev.neg (by rw [c2]; simp (disch := omega) only [up_s, up_k, up_j, mm_neg, mm_def, ni_lt, ni_le, ni_eq, ni_mm, mm_ni, ni_lt_mm, ni_le_mm, mm_lt_ni, mm_le_ni, mm_lt_mm, mm_le_mm, ni_cl, ni_in, nI_add, ni_mul, ni_div, ni_rem, ni_rem2, fr_sub, fr_mm, fr_ge0, fr_lt0, fr_inj, l32_0, l32_1, l32_2, l32_3, l32_4, l32_5, l32_6, l32_7, l32_8, l32_9, l32_10, l32_11, l32_12, l32_13, l32_14, l32_15, l32_16, l32_20, l32_24, l32_25, l32_26, l32_31, l32_32, l32_34, l32_35, l32_39, l32_40, l32_44, l32_45, l32_46, l32_47, l32_48, l32_49, l32_57, l32_58, l32_59, l32_63, l32_64, l32_85, l32_90, l32_97, l32_99, l32_100, l32_110, l32_112, l32_122, l32_124, l32_125, l32_255, l32_680, l32_699, l32_700, l32_999, l32_2500, l32_99999, l32_100000, l32_1000000, if_true, if_false, ite_true, ite_false, ce_nm, Option.bind, if_pos, if_neg]; omega) (Ev.grd (ni_in (by omega) (by omega)) (Ev.grd (ni_in (by omega) (by omega)) ?_))
      rw [ni_cl (by omega : i < 2147483648), ni_cl (by omega : v < 2147483648), if_neg z]
      have l1 := (lst_cn (o := og m) (v := i) (by omega)).2
      have l2 := (lst_cn (o := og m) (v := v) (by omega)).2
      by_cases x : Cn (og m) r i
      · have e : lst (og m) i = lst (og m) v := (lst_iff g (by omega) (by omega)).mpr ((x.symm g).trans hc)
        refine Ev.pos (by rw [lb i (by omega), lb v (by omega), e]) (Ev.grd (ni_in (by omega) (by omega)) ?_)
        by_cases w : y = fr (ids (og m) P r i)
        · refine Ev.pos (by rw [hid i x, w]) (Ev.some ?_)
          rw [if_pos (bo_p ⟨x, w⟩)]
        · refine Ev.neg (by rw [hid i x]; exact fun q => w q.symm) (Ev.some ?_)
          rw [if_neg (fun q => w (bo_t.mp q).2), nxt]
      · refine Ev.neg (by rw [lb i (by omega), lb v (by omega), ni_eq (by omega) (by omega)]; exact fun q => x (hc.trans (((lst_iff g (by omega) (by omega)).mp q).symm g))) (Ev.some ?_)
        rw [if_neg (fun q => x (bo_t.mp q).1), nxt])
  rw [show ((0 : Int32), h) = (nI 0, h) from rfl, L]
  generalize fi (fun w => bo (Cn (og m) r w ∧ y = fr (ids (og m) P r w))) (m 2) = q
  by_cases z : q = 0
  · rw [if_pos z, z]
    rfl
  · rw [if_neg z, fr_p (by omega)]
    rfl
theorem q_named {F : Nat} (hF : 1000 ≤ F) (x y : Int32) : Gd (f11_named F x y) (f12_named_ F x y) := by
  refine gd_ref hF (A := fun h => Option.bind (f4_nodeWith F x y h) (fun o24 => some (o24.1, o24.2))) (B := fun h => Option.bind (f12_laysIds F x h) (fun o14 => Option.bind (f12_withId F x y o14) (fun o20 => some (o20.1, o20.2)))) (fun h => rfl) (fun h => rfl) ?_
  rintro m kn v r hp on rfl tf
  have tf' := tf
  obtain ⟨hv, hr, hc, hR, T, hfi, tr⟩ := tf
  have h2 := on.1.2.1
  have sp := ids_spec T
  rw [ids_sz T] at sp
  obtain ⟨i1, i2, i3, i4, i5⟩ := sp
  have s10 : sz (og m) r ≤ 10 := ct_le _ _
  by_cases ex : ∃ j, j < sz (og m) r ∧ y = nI j
  · obtain ⟨j, hj, rfl⟩ := ex
    obtain ⟨w, w1, w2⟩ := i2 (j + 1) (by omega) (by omega)
    refine ⟨nI w, fun h c l => ?_, fun h c mf lb => ?_⟩
    · rw [x_nodeWith on.1 (c.cs l) T hr hR l.2.2 hc w1 w2]
      exact ev_bs (Ev.some ⟨rfl, Sc.refl _⟩)
    · refine Ev.bind (x_laysIds c tf' mf hF) (fun h1 hh => ?_)
      rw [x_withId (nI j) on.1 (c.sc hh.1).2.2.2.1 hh.2.2.1 T hv hc hh.2.2.2.2 hF]
      refine ev_bs (Ev.some ⟨?_, hh.1⟩)
      dsimp only
      rw [fi_one (cn_lt on.1 w1 hr) (bo_p ⟨w1, by rw [w2, fr_s]⟩) (fun i hi q => ?_), fr_s]
      obtain ⟨q1, q2⟩ := bo_t.mp q
      have b := i1 i q1
      rw [← fr_s j, fr_inj (by omega) (by omega)] at q2
      exact i3 i w q1 w1 (by omega)
  · refine ⟨mm, fun h c l => ?_, fun h c mf lb => ?_⟩
    · rw [x_nodeWithout y on.1 (c.cs l) T hr hR l.2.2 hc (fun j hj q => ex ⟨j, hj, q⟩)]
      exact ev_bs (Ev.some ⟨rfl, Sc.refl _⟩)
    · refine Ev.bind (x_laysIds c tf' mf hF) (fun h1 hh => ?_)
      rw [x_withId y on.1 (c.sc hh.1).2.2.2.1 hh.2.2.1 T hv hc hh.2.2.2.2 hF]
      refine ev_bs (Ev.some ⟨?_, hh.1⟩)
      dsimp only
      rw [fi_none (fun i hi => bo_f (fun q => ?_))]
      · rfl
      · have b := i1 i q.1
        exact ex ⟨ids (og m) (Pf m (sM m)) r i - 1, by omega, by rw [q.2, fr_p (by omega)]⟩
theorem Tr.parn {o P : Nat → Nat} {r : Nat} {hp : Nat → Nat} (T : Tr o P r hp) {w : Nat} (h : Cn o r w) : par o P w = if hp w = 1 then 0 else pr o P w + 1 := by
  by_cases z : w = r
  · rw [z, T.2.2.2.2.1, if_pos rfl]
    unfold par
    rw [if_pos T.2.2.2.1]
  · have a := (T.2.2.2.2.2.2 w (T.lt h) h z).1
    rw [if_neg (fun q => z (T.hp1 h q))]
    unfold par pr
    rw [if_neg a]
theorem q_depth {F : Nat} (hF : 1000 ≤ F) (x : Int32) : Gd (f11_depth F x) (f12_depth F x) := by
  refine gd_ref hF (A := fun h => ce_nm ((h 0 2).toNatClampNeg) (fun k_19 => if ce_isNet k_19 then Option.bind (f3_parentOf F 48 k_19 x h) (fun o23 => Option.bind (ce_it (fun (st : Int32 × Int32 × Hp) => f11_depth_b28 F st.1 st.2.1 st.2.2) F ((0 : Int32), o23.1, o23.2)) (fun o28 => some (o28.1, o28.2))) else none)) (B := fun h => Option.bind (f12_depthOf F x h) (fun o16 => some (o16.1, o16.2))) (fun h => rfl) (fun h => rfl) ?_
  rintro m kn v r hp on rfl ⟨hv, hr, hc, hR, T, hfi, tr⟩
  have h2 := on.1.2.1
  have hb := T.2.2.2.2.2.1 v (by omega) hc
  have up := T.up hc
  refine ⟨nI (hp v - 1), fun h c l => ?_, fun h c mf lb => ?_⟩
  · have b := net_le c.2.1
    have cp : ∀ u, Cn (og m) r u → f3_parentOf F 48 kn (nI u) h = some (fr (par (og m) (Pf m (sM m)) u), h) := fun u hu => x_cparent on.1 c.2.2.2.2.1.1 T.2.1 (fun v hv => (l.el hv).2.2.2) (T.lt hu)
    refine Ev.nm ?_
    rw [c.1, ni_cl (by omega)]
    refine Ev.grd c.2.1 ?_
    rw [cp v hc]
    refine ev_bs ?_
    dsimp only
    refine Ev.bind (P := fun o => o = (nI (hp v - 1), h)) ?_ (fun o ho => by rw [ho]; exact Ev.some ⟨rfl, Sc.refl _⟩)
    refine Ev.it (I := fun i st => i < hp v ∧ st = (nI i, fr (par (og m) (Pf m (sM m)) (upn (og m) (Pf m (sM m)) i v)), h)) _ 10 ?_ F 0 _ (by omega) (by omega) ⟨by omega, rfl⟩
    rintro i st hi ⟨hi2, rfl⟩
    show Ev (f11_depth_b28 F (nI i) (fr (par (og m) (Pf m (sM m)) (upn (og m) (Pf m (sM m)) i v))) h) _
    obtain ⟨u1, u2⟩ := up i hi2
    have hu10 := T.lt u1
    have pe := T.parn u1
    unfold f11_depth_b28
    by_cases z : hp v - i = 1
    · rw [u2, if_pos z] at pe
      rw [pe, fr_0]
      refine Ev.pos rfl (Ev.some ?_)
      rw [show hp v - 1 = i by omega]
    · rw [u2, if_neg z] at pe
      obtain ⟨w1, w2⟩ := up (i + 1) (by omega)
      have hw10 := T.lt w1
      have e1 : pr (og m) (Pf m (sM m)) (upn (og m) (Pf m (sM m)) i v) = upn (og m) (Pf m (sM m)) (i + 1) v := rfl
      rw [pe, fr_s, e1]
      refine Ev.neg (by simp (disch := omega) only [up_s, up_k, up_j, mm_neg, mm_def, ni_lt, ni_le, ni_eq, ni_mm, mm_ni, ni_lt_mm, ni_le_mm, mm_lt_ni, mm_le_ni, mm_lt_mm, mm_le_mm, ni_cl, ni_in, nI_add, ni_mul, ni_div, ni_rem, ni_rem2, fr_sub, fr_mm, fr_ge0, fr_lt0, fr_inj, l32_0, l32_1, l32_2, l32_3, l32_4, l32_5, l32_6, l32_7, l32_8, l32_9, l32_10, l32_11, l32_12, l32_13, l32_14, l32_15, l32_16, l32_20, l32_24, l32_25, l32_26, l32_31, l32_32, l32_34, l32_35, l32_39, l32_40, l32_44, l32_45, l32_46, l32_47, l32_48, l32_49, l32_57, l32_58, l32_59, l32_63, l32_64, l32_85, l32_90, l32_97, l32_99, l32_100, l32_110, l32_112, l32_122, l32_124, l32_125, l32_255, l32_680, l32_699, l32_700, l32_999, l32_2500, l32_99999, l32_100000, l32_1000000, if_true, if_false, ite_true, ite_false, ce_nm, Option.bind, if_pos, if_neg]; exact id) (Ev.neg (by simp (disch := omega) only [up_s, up_k, up_j, mm_neg, mm_def, ni_lt, ni_le, ni_eq, ni_mm, mm_ni, ni_lt_mm, ni_le_mm, mm_lt_ni, mm_le_ni, mm_lt_mm, mm_le_mm, ni_cl, ni_in, nI_add, ni_mul, ni_div, ni_rem, ni_rem2, fr_sub, fr_mm, fr_ge0, fr_lt0, fr_inj, l32_0, l32_1, l32_2, l32_3, l32_4, l32_5, l32_6, l32_7, l32_8, l32_9, l32_10, l32_11, l32_12, l32_13, l32_14, l32_15, l32_16, l32_20, l32_24, l32_25, l32_26, l32_31, l32_32, l32_34, l32_35, l32_39, l32_40, l32_44, l32_45, l32_46, l32_47, l32_48, l32_49, l32_57, l32_58, l32_59, l32_63, l32_64, l32_85, l32_90, l32_97, l32_99, l32_100, l32_110, l32_112, l32_122, l32_124, l32_125, l32_255, l32_680, l32_699, l32_700, l32_999, l32_2500, l32_99999, l32_100000, l32_1000000, if_true, if_false, ite_true, ite_false, ce_nm, Option.bind, if_pos, if_neg]; omega) (Ev.nm ?_))
      rw [c.1, ni_cl (by omega)]
      refine Ev.grd c.2.1 ?_
      rw [cp _ w1]
      refine ev_bs (Ev.some ⟨by omega, by omega, ?_⟩)
      rw [show nI i + 1 = nI (i + 1) from nI_1 _]
  · have cp : ∀ u, Cn (og m) r u → f12_parentOf F (nI u) h = some (fr (par (og m) (Pf m (sM m)) u), h) := fun u hu => x_mparent on.1 c.2.2.2.1 T.2.1 (fun v hv => (mf.el hv).2.2.2) (cn_lt on.1 hu hr)
    unfold f12_depthOf
    refine Ev.bind (P := fun o => o = (nI (hp v - 1), h)) (Ev.bind (P := fun o => o = (nI (hp v - 1), h)) ?_ (fun o ho => Ev.some (by rw [ho]))) (fun o ho => by rw [ho]; exact Ev.some ⟨rfl, Sc.refl _⟩)
    refine Ev.it (I := fun i st => i < hp v ∧ st = (nI i, nI (upn (og m) (Pf m (sM m)) i v), h)) _ 10 ?_ F 0 _ (by omega) (by omega) ⟨by omega, rfl⟩
    rintro i st hi ⟨hi2, rfl⟩
    show Ev (f12_depthOf_b4 F (nI i) (nI (upn (og m) (Pf m (sM m)) i v)) h) _
    obtain ⟨u1, u2⟩ := up i hi2
    have hu10 := T.lt u1
    have pe := T.parn u1
    unfold f12_depthOf_b4
    rw [cp _ u1]
    refine ev_bs ?_
    dsimp only
    by_cases z : hp v - i = 1
    · rw [u2, if_pos z] at pe
      refine Ev.pos (by rw [pe]; rfl) (Ev.some ?_)
      rw [show hp v - 1 = i by omega]
    · rw [u2, if_neg z] at pe
      obtain ⟨w1, w2⟩ := up (i + 1) (by omega)
      have hw10 := T.lt w1
      have e1 : pr (og m) (Pf m (sM m)) (upn (og m) (Pf m (sM m)) i v) = upn (og m) (Pf m (sM m)) (i + 1) v := rfl
      rw [e1] at pe
      refine Ev.neg (by rw [pe, fr_s]; simp (disch := omega) only [up_s, up_k, up_j, mm_neg, mm_def, ni_lt, ni_le, ni_eq, ni_mm, mm_ni, ni_lt_mm, ni_le_mm, mm_lt_ni, mm_le_ni, mm_lt_mm, mm_le_mm, ni_cl, ni_in, nI_add, ni_mul, ni_div, ni_rem, ni_rem2, fr_sub, fr_mm, fr_ge0, fr_lt0, fr_inj, l32_0, l32_1, l32_2, l32_3, l32_4, l32_5, l32_6, l32_7, l32_8, l32_9, l32_10, l32_11, l32_12, l32_13, l32_14, l32_15, l32_16, l32_20, l32_24, l32_25, l32_26, l32_31, l32_32, l32_34, l32_35, l32_39, l32_40, l32_44, l32_45, l32_46, l32_47, l32_48, l32_49, l32_57, l32_58, l32_59, l32_63, l32_64, l32_85, l32_90, l32_97, l32_99, l32_100, l32_110, l32_112, l32_122, l32_124, l32_125, l32_255, l32_680, l32_699, l32_700, l32_999, l32_2500, l32_99999, l32_100000, l32_1000000, if_true, if_false, ite_true, ite_false, ce_nm, Option.bind, if_pos, if_neg]; exact id) ?_
      rw [cp _ u1]
      refine ev_bs (Ev.some ⟨by omega, by omega, ?_⟩)
      rw [pe, fr_s, show nI i + 1 = nI (i + 1) from nI_1 _]
/-- up a way the calls come later -/
theorem Pf_rise {m wt : Nat → Nat} {s : Es} (fs : FS m wt s) {u : Nat} (hu : u < 10) (h1 : Pf m s u ≠ 0) (h2 : Pf m s (pr (og m) (Pf m s) u) ≠ 0) : s 1 u < s 1 (pr (og m) (Pf m s) u) := by
  have g := fs.1.2.2.2.1
  have E := fs.2.1
  obtain ⟨a1, a2, a3⟩ := Pf_ok fs hu h1
  obtain ⟨f, hf⟩ : ∃ f, Pf m s u = f + 1 := ⟨Pf m s u - 1, by omega⟩
  have ep : pr (og m) (Pf m s) u = (og m f - 1) / 4 := by
    unfold pr
    rw [hf]
    rfl
  rw [ep] at h2 ⊢
  rw [hf, show f + 1 - 1 = f from rfl] at a2 a3
  have hf40 : f < 40 := by omega
  obtain ⟨g1, g2, g3⟩ := g f hf40 a3
  have hw : (og m f - 1) / 4 < 10 := by omega
  have p1 := Pf_s h1
  have p2 := Pf_s h2
  have su : s 2 u = f + 1 := by omega
  obtain ⟨y1, y2, y3, y4, y5, y6, y7⟩ := E.2.1 u hu (E.s2 hu (by omega))
  rw [su, show f + 1 - 1 = f from rfl] at y6
  obtain ⟨z1, z2, z3, z4, z5, z6, z7, z8, z9, z10, z11⟩ := E.2.1 _ hw (E.s2 hw (by omega))
  have len := (fs.1.2.2.2.2 f hf40 a3).2.2.1
  by_cases q : og m f = s 2 ((og m f - 1) / 4)
  · exfalso
    have mu1 : mu (og m) s u = true := mu_t.mpr ⟨by omega, by rw [su]; exact q.symm⟩
    have mu2 : mu (og m) s ((og m f - 1) / 4) = true := mu_t.mpr ⟨by omega, by rw [← q, g2, show f + 1 - 1 = f from rfl, a2]; exact su⟩
    obtain ⟨e, q1, q2, q3, q4, q5, q6, q7⟩ := mu_el g E hu mu1
    have e1 : el (og m) s ((og m f - 1) / 4) = el (og m) s u := by
      unfold el
      rw [su, ← q, g2, show f + 1 - 1 = f from rfl]
      omega
    have ws : wno (og m) m s e = u ∨ wno (og m) m s e = (og m f - 1) / 4 := by
      have ee : e = f ∨ e = og m f - 1 := by
        have := q1
        unfold el at this
        rw [su, show f + 1 - 1 = f from rfl] at this
        omega
      have w2 : wno (og m) m s e = e / 4 ∨ wno (og m) m s e = (og m e - 1) / 4 := by
        unfold wno
        by_cases y : (CWe (og m) m s e).2.2 = 1
        · rw [if_pos y]; exact Or.inl rfl
        · rw [if_neg y]; exact Or.inr rfl
      rcases ee with x | x
      · rw [x] at w2 ⊢
        rw [a2] at w2
        exact w2
      · rw [x, g2, show f + 1 - 1 = f from rfl, a2] at w2
        rw [x]
        exact w2.symm
    rcases ws with x | x
    · exact p1.2 ⟨mu1, by rw [q1]; exact x⟩
    · exact p2.2 ⟨mu2, by rw [e1, q1]; exact x⟩
  · have := (z11 (og m f - 1) (by omega) rfl (by rw [g2]; omega) (by omega)).2
    omega
