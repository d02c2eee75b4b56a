-- cutting, bridges
theorem cut_frame {m : Nat → Nat} {lo hi : Nat} {h h1 h2 h3 : Hp} (f1 : F69 h h1) (f2 : Fr lo hi h1 h2) (hl : 70 ≤ lo) (f3 : F69 h2 h3) (c : MN h m) (c3 : MN h3 m) : Fr lo hi h h3 := fun k hk => by
  by_cases z : k = 69
  · rw [z]
    funext j
    by_cases y : j < 125
    · rw [c j y, c3 j y]
    · rw [f3.2 j (by omega), f2 69 (by omega), f1.2 j (by omega)]
  · rw [f3.1 k z, f2 k hk, f1.1 k z]
theorem MN.eqv {h : Hp} {m m' : Nat → Nat} (c : MN h m) (e : ∀ j, j < 125 → m j = m' j) : MN h m' := fun j hj => by rw [← e j hj]; exact c j hj
theorem q_cutting {F : Nat} (hF : 1000 ≤ F) (x y : Int32) : Gd (f11_cutting F x y) (f12_cutting F x y) := by
  intro m kn
  by_cases on : OkN m
  rotate_left
  · exact ⟨0, fun h c => absurd c.2.2.1 on, fun h c => absurd c.2.2.1 on⟩
  have h2 := on.1.2.1
  have g := on.1.2.2.2.1
  have n1 : ¬ (nI 1 : Int32) = 0 := by decide
  by_cases np : isP m x y = false
  · refine ⟨-2, fun h c => ?_, fun h c => ?_⟩
    · have b := net_le c.2.1
      unfold f11_cutting
      refine Ev.nm ?_
      rw [c.1, ni_cl (by omega)]
      refine Ev.grd c.2.1 ?_
      rw [x_hasPort x y on.1 c.2.2.2.2.1.1, np]
      exact ev_bs (Ev.pos rfl (Ev.some ⟨rfl, Sc.refl _⟩))
    · unfold f12_cutting
      rw [x_isPort x y on.1 c.2.2.2.1, np]
      exact ev_bs (Ev.pos rfl (Ev.some ⟨rfl, Sc.refl _⟩))
  · obtain ⟨v, p, hv, hp, rfl, rfl⟩ := isP_ex np
    have hpp := on.1.2.2.1 v hv
    have he : 4 * v + p < 40 := by omega
    have e4 : (4 : Int32) * nI v + nI p = nI (4 * v + p) := by rw [l32_4, ni_mul, nI_add]
    have ev : (4 * v + p) / 4 = v := by omega
    have hog := og_le g he
    obtain ⟨e, hee⟩ : ∃ e, e = 4 * v + p := ⟨_, rfl⟩
    rw [← hee] at he e4 ev hog
    by_cases z : og m e = 0
    · refine ⟨-2, fun h c => ?_, fun h c => ?_⟩
      · have b := net_le c.2.1
        unfold f11_cutting
        refine Ev.nm ?_
        rw [c.1, ni_cl (by omega)]
        refine Ev.grd c.2.1 ?_
        rw [x_hasPort _ _ on.1 c.2.2.2.2.1.1, isP_t hv hp]
        refine ev_bs (Ev.neg n1 (Ev.nm ?_))
        dsimp only
        rw [c.1, ni_cl (by omega)]
        refine Ev.grd c.2.1 ?_
        rw [x_endOf, ← hee]
        refine ev_bs ?_
        dsimp only
        rw [x_isCabled F kn e (og m e) h he (by omega) (c.2.2.2.2.1.1.2.2.2.1 e he), if_pos z]
        exact ev_bs (Ev.pos rfl (Ev.some ⟨rfl, Sc.refl _⟩))
      · unfold f12_cutting
        rw [x_isPort _ _ on.1 c.2.2.2.1, isP_t hv hp]
        refine ev_bs (Ev.neg n1 ?_)
        dsimp only
        rw [e4, x_otherOf c.2.2.2.1 he, z]
        exact ev_bs (Ev.neg cmm' (Ev.some ⟨rfl, Sc.refl _⟩))
    · refine ⟨nI (sz (cu (og m) (e + 1)) v), fun h c => ?_, fun h c => ?_⟩
      · have b := net_le c.2.1
        unfold f11_cutting
        refine Ev.nm ?_
        rw [c.1, ni_cl (by omega)]
        refine Ev.grd c.2.1 ?_
        rw [x_hasPort _ _ on.1 c.2.2.2.2.1.1, isP_t hv hp]
        refine ev_bs (Ev.neg n1 (Ev.nm ?_))
        dsimp only
        rw [c.1, ni_cl (by omega)]
        refine Ev.grd c.2.1 ?_
        rw [x_endOf, ← hee]
        refine ev_bs ?_
        dsimp only
        rw [x_isCabled F kn e (og m e) h he (by omega) (c.2.2.2.2.1.1.2.2.2.1 e he), if_neg z]
        refine ev_bs (Ev.neg n1 (Ev.nm ?_))
        dsimp only
        rw [c.1, ni_cl (by omega)]
        refine Ev.grd c.2.1 ?_
        rw [x_endOf, ← hee]
        refine ev_bs ?_
        dsimp only
        rw [← fr_s e]
        refine Ev.bind (x_start c.2.1 on.1 c.2.2.2.2.1.1 (by omega : e + 1 ≤ 40) hv hF) (fun h1 hh => ?_)
        obtain ⟨fw, s, qq, hp', dy, B, bf⟩ := hh
        refine Ev.some ⟨?_, fw.sc⟩
        dsimp only
        rw [B.1, Bs_sz B bf]
      · obtain ⟨g1, g2, g3⟩ := g e he z
        obtain ⟨k1, k2, k3, k4, k5⟩ := ok_ctm on.1 he z
        have cm := c.2.2.2.1
        have e85 : (85 : Int32) + nI e = nI (85 + e) := by rw [l32_85, nI_add]
        unfold f12_cutting
        rw [x_isPort _ _ on.1 cm, isP_t hv hp]
        refine ev_bs (Ev.neg n1 ?_)
        dsimp only
        rw [e4, x_otherN cm he z]
        refine ev_bs (Ev.pos (by simp (disch := omega) only [up_s, up_k, up_j, mm_neg, mm_def, ni_lt, ni_le, ni_eq, ni_mm, mm_ni, ni_lt_mm, ni_le_mm, mm_lt_ni, mm_le_ni, mm_lt_mm, mm_le_mm, ni_cl, ni_in, nI_add, ni_mul, ni_div, ni_rem, ni_rem2, fr_sub, fr_mm, fr_ge0, fr_lt0, fr_inj, l32_0, l32_1, l32_2, l32_3, l32_4, l32_5, l32_6, l32_7, l32_8, l32_9, l32_10, l32_11, l32_12, l32_13, l32_14, l32_15, l32_16, l32_20, l32_24, l32_25, l32_26, l32_31, l32_32, l32_34, l32_35, l32_39, l32_40, l32_44, l32_45, l32_46, l32_47, l32_48, l32_49, l32_57, l32_58, l32_59, l32_63, l32_64, l32_85, l32_90, l32_97, l32_99, l32_100, l32_110, l32_112, l32_122, l32_124, l32_125, l32_255, l32_680, l32_699, l32_700, l32_999, l32_2500, l32_99999, l32_100000, l32_1000000, if_true, if_false, ite_true, ite_false, ce_nm, Option.bind, if_pos, if_neg]; omega) ?_)
        dsimp only
        rw [x_otherN cm he z]
        refine ev_bs ?_
        dsimp only
        rw [e85]
        refine Ev.grd (ni_in (by omega) (by omega)) ?_
        rw [ni_cl (by omega), cm _ (by omega)]
        refine Ev.bind (x_takes g cm he z) (fun h1 hh1 => ?_)
        obtain ⟨f1, c1⟩ := hh1
        refine Ev.bind (x_sizeOf k1 c1 (by rw [k2]; exact hv) hF) (fun o ho => ?_)
        obtain ⟨o1, f2, -⟩ := ho
        refine Ev.bind (x_lays (c1.fr f2 (by omega)) he (by omega) (fun q => g3 (by rw [← q]))) (fun h3 hh3 => ?_)
        obtain ⟨f3, c3⟩ := hh3
        have c3' : MN h3 m := c3.eqv (lym_ctm on.1 he z)
        refine Ev.some ⟨?_, (cut_frame f1 f2 (by omega) f3 cm c3').sc (by omega)⟩
        dsimp only
        rw [o1, o_sz (og_ctm on.1 he z)]
noncomputable def br (m : Nat → Nat) : Nat → Bool := fun e => bo (og m e ≠ 0 ∧ e < og m e - 1 ∧ ¬ Cn (cu (og m) (e + 1)) (e / 4) ((og m e - 1) / 4))
theorem x_isBridge {m : Nat → Nat} {kn e F : Nat} {h : Hp} (c : Co h m kn) (he : e < 40) (h0 : og m e ≠ 0) (hF : 1000 ≤ F) : Ev (f10_isBridge F kn (nI e) h) (fun o => o.1 = (if bo (Cn (cu (og m) (e + 1)) (e / 4) ((og m e - 1) / 4)) = true then nI 0 else nI 1) ∧ Fr 40 43 h o.2) := by
  have on := c.2.2.1
  have g := on.1.2.2.2.1
  have b := net_le c.2.1
  have cn := c.2.2.2.2.1.1
  obtain ⟨g1, g2, g3⟩ := g e he h0
  have hev := (on.1.2.2.2.2 e he h0).1
  unfold f10_isBridge
  rw [x_isCabled F kn e (og m e) h he (by omega) (cn.2.2.2.1 e he), if_neg h0]
  refine ev_bs (Ev.neg (by decide : ¬ (nI 1 : Int32) = 0) ?_)
  dsimp only
  rw [x_nodeOf _ _ _ (by omega)]
  refine ev_bs ?_
  dsimp only
  have ee : nI e = fr (e + 1) := (fr_s e).symm
  have st := x_start (F := F) c.2.1 on.1 cn (by omega : e + 1 ≤ 40) hev hF
  rw [← ee] at st
  refine Ev.bind st (fun h1 hh => ?_)
  obtain ⟨fw, s, qq, hp', dy, B, bf⟩ := hh
  refine Ev.grd (ni_in (by omega) he) ?_
  rw [ni_cl (by omega), fw.fr (kn + 5) (by omega), cn.2.2.2.1 e he, fr_p (by omega), x_nodeOf _ _ _ (by omega)]
  refine ev_bs ?_
  dsimp only
  refine Ev.grd (ni_in (by omega) (by omega)) ?_
  rw [ni_cl (by omega)]
  have e43 := (B.2.2.2.1 ((og m e - 1) / 4) (by omega)).1
  have hb := (bf.2.2.2.1 ((og m e - 1) / 4) (by omega)).1
  have iff := bf.2.2.1 ((og m e - 1) / 4) (by omega)
  by_cases z : Cn (cu (og m) (e + 1)) (e / 4) ((og m e - 1) / 4)
  · refine Ev.neg (by simp (disch := omega) only [up_s, up_k, up_j, mm_neg, mm_def, ni_lt, ni_le, ni_eq, ni_mm, mm_ni, ni_lt_mm, ni_le_mm, mm_lt_ni, mm_le_ni, mm_lt_mm, mm_le_mm, ni_cl, ni_in, nI_add, ni_mul, ni_div, ni_rem, ni_rem2, fr_sub, fr_mm, fr_ge0, fr_lt0, fr_inj, l32_0, l32_1, l32_2, l32_3, l32_4, l32_5, l32_6, l32_7, l32_8, l32_9, l32_10, l32_11, l32_12, l32_13, l32_14, l32_15, l32_16, l32_20, l32_24, l32_25, l32_26, l32_31, l32_32, l32_34, l32_35, l32_39, l32_40, l32_44, l32_45, l32_46, l32_47, l32_48, l32_49, l32_57, l32_58, l32_59, l32_63, l32_64, l32_85, l32_90, l32_97, l32_99, l32_100, l32_110, l32_112, l32_122, l32_124, l32_125, l32_255, l32_680, l32_699, l32_700, l32_999, l32_2500, l32_99999, l32_100000, l32_1000000, if_true, if_false, ite_true, ite_false, ce_nm, Option.bind, if_pos, if_neg, e43]; exact iff.mpr z) (Ev.some ⟨?_, fw.fr⟩)
    rw [bo_p z]
    rfl
  · have : hp' ((og m e - 1) / 4) = 0 := Classical.byContradiction (fun q => z (iff.mp q))
    refine Ev.pos (by rw [e43, this]; rfl) (Ev.some ⟨?_, fw.fr⟩)
    rw [bo_f z]
    rfl
theorem q_bridges {F : Nat} (hF : 1000 ≤ F) : Gd (f11_bridges F) (f12_bridges F) := by
  intro m kn
  by_cases on : OkN m
  rotate_left
  · exact ⟨0, fun h c => absurd c.2.2.1 on, fun h c => absurd c.2.2.1 on⟩
  have h2 := on.1.2.1
  have g := on.1.2.2.2.1
  have m3b := on.2.2.2.2.1
  have n1 : ¬ (nI 1 : Int32) = 0 := by decide
  by_cases m3 : m 3 = 0
  · refine ⟨-2, fun h c => ?_, fun h c => ?_⟩
    · have b := net_le c.2.1
      unfold f11_bridges
      refine Ev.nm ?_
      rw [c.1, ni_cl (by omega)]
      exact Ev.grd c.2.1 (Ev.pos (by rw [c.2.2.2.2.1.2.1, m3]; rfl) (Ev.some ⟨rfl, Sc.refl _⟩))
    · unfold f12_bridges
      rw [x_is c.2.2.2.1 m3b, if_pos m3]
      exact ev_bs (Ev.pos rfl (Ev.some ⟨rfl, Sc.refl _⟩))
  · refine ⟨nI (ct (br m) 40), fun h c => ?_, fun h c => ?_⟩
    · have b := net_le c.2.1
      unfold f11_bridges
      refine Ev.nm ?_
      rw [c.1, ni_cl (by omega)]
      refine Ev.grd c.2.1 (Ev.neg (by rw [c.2.2.2.2.1.2.1]; simp (disch := omega) only [up_s, up_k, up_j, mm_neg, mm_def, ni_lt, ni_le, ni_eq, ni_mm, mm_ni, ni_lt_mm, ni_le_mm, mm_lt_ni, mm_le_ni, mm_lt_mm, mm_le_mm, ni_cl, ni_in, nI_add, ni_mul, ni_div, ni_rem, ni_rem2, fr_sub, fr_mm, fr_ge0, fr_lt0, fr_inj, l32_0, l32_1, l32_2, l32_3, l32_4, l32_5, l32_6, l32_7, l32_8, l32_9, l32_10, l32_11, l32_12, l32_13, l32_14, l32_15, l32_16, l32_20, l32_24, l32_25, l32_26, l32_31, l32_32, l32_34, l32_35, l32_39, l32_40, l32_44, l32_45, l32_46, l32_47, l32_48, l32_49, l32_57, l32_58, l32_59, l32_63, l32_64, l32_85, l32_90, l32_97, l32_99, l32_100, l32_110, l32_112, l32_122, l32_124, l32_125, l32_255, l32_680, l32_699, l32_700, l32_999, l32_2500, l32_99999, l32_100000, l32_1000000, if_true, if_false, ite_true, ite_false, ce_nm, Option.bind, if_pos, if_neg]; exact m3) ?_)
      refine Ev.bind (P := fun o => o.1 = nI (ct (br m) 40) ∧ Sc h o.2) ?_ (fun o ho => Ev.some ho)
      refine Ev.it (I := fun i st => st.1 = nI (ct (br m) i) ∧ st.2.1 = nI i ∧ Fr 40 43 h st.2.2) _ 40 ?_ F 0 _ (by omega) (by omega) ⟨rfl, rfl, Fr.refl _ _ _⟩
      rintro i ⟨x1, x2, h1⟩ hi hI
      obtain ⟨rfl, rfl, f1⟩ : x1 = nI (ct (br m) i) ∧ x2 = nI i ∧ Fr 40 43 h h1 := hI
      show Ev (f11_bridges_b17 F (nI (ct (br m) i)) (nI i) h1) _
      have c1 := c.sc (f1.sc (by omega))
      have cs := ct_succ (br m) i
      have nxt : nI i + 1 = nI (i + 1) := nI_1 _
      unfold f11_bridges_b17
      by_cases hin : 40 ≤ i
      · refine Ev.pos (by simp (disch := omega) only [up_s, up_k, up_j, mm_neg, mm_def, ni_lt, ni_le, ni_eq, ni_mm, mm_ni, ni_lt_mm, ni_le_mm, mm_lt_ni, mm_le_ni, mm_lt_mm, mm_le_mm, ni_cl, ni_in, nI_add, ni_mul, ni_div, ni_rem, ni_rem2, fr_sub, fr_mm, fr_ge0, fr_lt0, fr_inj, l32_0, l32_1, l32_2, l32_3, l32_4, l32_5, l32_6, l32_7, l32_8, l32_9, l32_10, l32_11, l32_12, l32_13, l32_14, l32_15, l32_16, l32_20, l32_24, l32_25, l32_26, l32_31, l32_32, l32_34, l32_35, l32_39, l32_40, l32_44, l32_45, l32_46, l32_47, l32_48, l32_49, l32_57, l32_58, l32_59, l32_63, l32_64, l32_85, l32_90, l32_97, l32_99, l32_100, l32_110, l32_112, l32_122, l32_124, l32_125, l32_255, l32_680, l32_699, l32_700, l32_999, l32_2500, l32_99999, l32_100000, l32_1000000, if_true, if_false, ite_true, ite_false, ce_nm, Option.bind, if_pos, if_neg]; exact hin) (Ev.some ⟨?_, f1.sc (by omega)⟩)
        have : i = 40 := by omega
        rw [this]
      · have hi4 : i < 40 := by omega
        refine Ev.neg (by simp (disch := omega) only [up_s, up_k, up_j, mm_neg, mm_def, ni_lt, ni_le, ni_eq, ni_mm, mm_ni, ni_lt_mm, ni_le_mm, mm_lt_ni, mm_le_ni, mm_lt_mm, mm_le_mm, ni_cl, ni_in, nI_add, ni_mul, ni_div, ni_rem, ni_rem2, fr_sub, fr_mm, fr_ge0, fr_lt0, fr_inj, l32_0, l32_1, l32_2, l32_3, l32_4, l32_5, l32_6, l32_7, l32_8, l32_9, l32_10, l32_11, l32_12, l32_13, l32_14, l32_15, l32_16, l32_20, l32_24, l32_25, l32_26, l32_31, l32_32, l32_34, l32_35, l32_39, l32_40, l32_44, l32_45, l32_46, l32_47, l32_48, l32_49, l32_57, l32_58, l32_59, l32_63, l32_64, l32_85, l32_90, l32_97, l32_99, l32_100, l32_110, l32_112, l32_122, l32_124, l32_125, l32_255, l32_680, l32_699, l32_700, l32_999, l32_2500, l32_99999, l32_100000, l32_1000000, if_true, if_false, ite_true, ite_false, ce_nm, Option.bind, if_pos, if_neg]; exact hin) (Ev.nm ?_)
        rw [c1.1, ni_cl (by omega)]
        refine Ev.grd c1.2.1 ?_
        rw [x_isLesser on.1 c1.2.2.2.2.1.1 hi4]
        refine ev_bs ?_
        dsimp only
        by_cases z : og m i ≠ 0 ∧ i < og m i - 1
        · refine Ev.neg (by rw [if_pos z]; decide) (Ev.nm ?_)
          rw [c1.1, ni_cl (by omega)]
          refine Ev.grd c1.2.1 (Ev.bind (x_isBridge c1 hi4 z.1 hF) (fun o ho => ?_))
          have f5 := f1.trans ho.2
          by_cases y : Cn (cu (og m) (i + 1)) (i / 4) ((og m i - 1) / 4)
          · rw [show br m i = false from bo_f (fun q => q.2.2 y), if_neg (by simp)] at cs
            refine Ev.pos (by rw [ho.1, bo_p y]; rfl) (Ev.some ⟨by omega, ?_, nxt, f5⟩)
            dsimp only; rw [cs]; rfl
          · rw [show br m i = true from bo_p ⟨z.1, z.2, y⟩, if_pos rfl] at cs
            refine Ev.neg (by rw [ho.1, bo_f y]; decide) (Ev.some ⟨by omega, ?_, nxt, f5⟩)
            dsimp only; rw [cs]; exact nI_1 _
        · rw [show br m i = false from bo_f (fun q => z ⟨q.1, q.2.1⟩), if_neg (by simp)] at cs
          refine Ev.pos (by rw [if_neg z]; rfl) (Ev.some ⟨by omega, ?_, nxt, f1⟩)
          dsimp only; rw [cs]; rfl
    · have cm := c.2.2.2.1
      unfold f12_bridges
      rw [x_is cm m3b, if_neg m3]
      refine ev_bs (Ev.neg n1 ?_)
      dsimp only
      refine Ev.bind (x_busesOf on.1 cm hF) (fun o ho => ?_)
      obtain ⟨o1, f0, -⟩ := ho
      have cb0 := ct_le (fun u => bo (lst (og m) u = u)) (m 2)
      rw [o1]
      refine Ev.bind (P := fun o => o.1 = nI (ct (br m) 40) ∧ Sc h o.2) ?_ (fun o ho => Ev.some ho)
      refine Ev.it (I := fun i st => st.1 = nI (ct (br m) i) ∧ st.2.1 = nI i ∧ Fr 75 75 h st.2.2) _ 40 ?_ F 0 _ (by omega) (by omega) ⟨rfl, rfl, f0⟩
      rintro i ⟨x2, x3, h1⟩ hi hI
      obtain ⟨rfl, rfl, f1⟩ : x2 = nI (ct (br m) i) ∧ x3 = nI i ∧ Fr 75 75 h h1 := hI
      show Ev (f12_bridges_b19 F (nI (ct (fun u => bo (lst (og m) u = u)) (m 2))) (nI (ct (br m) i)) (nI i) h1) _
      have cm1 := cm.fr f1 (by omega)
      have cs := ct_succ (br m) i
      have nxt : nI i + 1 = nI (i + 1) := nI_1 _
      unfold f12_bridges_b19
      by_cases hin : 40 ≤ i
      · refine Ev.pos (by simp (disch := omega) only [up_s, up_k, up_j, mm_neg, mm_def, ni_lt, ni_le, ni_eq, ni_mm, mm_ni, ni_lt_mm, ni_le_mm, mm_lt_ni, mm_le_ni, mm_lt_mm, mm_le_mm, ni_cl, ni_in, nI_add, ni_mul, ni_div, ni_rem, ni_rem2, fr_sub, fr_mm, fr_ge0, fr_lt0, fr_inj, l32_0, l32_1, l32_2, l32_3, l32_4, l32_5, l32_6, l32_7, l32_8, l32_9, l32_10, l32_11, l32_12, l32_13, l32_14, l32_15, l32_16, l32_20, l32_24, l32_25, l32_26, l32_31, l32_32, l32_34, l32_35, l32_39, l32_40, l32_44, l32_45, l32_46, l32_47, l32_48, l32_49, l32_57, l32_58, l32_59, l32_63, l32_64, l32_85, l32_90, l32_97, l32_99, l32_100, l32_110, l32_112, l32_122, l32_124, l32_125, l32_255, l32_680, l32_699, l32_700, l32_999, l32_2500, l32_99999, l32_100000, l32_1000000, if_true, if_false, ite_true, ite_false, ce_nm, Option.bind, if_pos, if_neg]; exact hin) (Ev.some ⟨?_, f1.sc (by omega)⟩)
        have : i = 40 := by omega
        rw [this]
      · have hi4 : i < 40 := by omega
        have hog := og_le g hi4
        refine Ev.neg (by simp (disch := omega) only [up_s, up_k, up_j, mm_neg, mm_def, ni_lt, ni_le, ni_eq, ni_mm, mm_ni, ni_lt_mm, ni_le_mm, mm_lt_ni, mm_le_ni, mm_lt_mm, mm_le_mm, ni_cl, ni_in, nI_add, ni_mul, ni_div, ni_rem, ni_rem2, fr_sub, fr_mm, fr_ge0, fr_lt0, fr_inj, l32_0, l32_1, l32_2, l32_3, l32_4, l32_5, l32_6, l32_7, l32_8, l32_9, l32_10, l32_11, l32_12, l32_13, l32_14, l32_15, l32_16, l32_20, l32_24, l32_25, l32_26, l32_31, l32_32, l32_34, l32_35, l32_39, l32_40, l32_44, l32_45, l32_46, l32_47, l32_48, l32_49, l32_57, l32_58, l32_59, l32_63, l32_64, l32_85, l32_90, l32_97, l32_99, l32_100, l32_110, l32_112, l32_122, l32_124, l32_125, l32_255, l32_680, l32_699, l32_700, l32_999, l32_2500, l32_99999, l32_100000, l32_1000000, if_true, if_false, ite_true, ite_false, ce_nm, Option.bind, if_pos, if_neg]; exact hin) ?_
        rw [x_otherOf cm1 hi4]
        refine ev_bs ?_
        dsimp only
        by_cases z : og m i ≠ 0 ∧ i < og m i - 1
        · obtain ⟨g1, g2, g3⟩ := g i hi4 z.1
          obtain ⟨k1, k2, k3, k4, k5⟩ := ok_ctm on.1 hi4 z.1
          have hev := (on.1.2.2.2.2 i hi4 z.1).1
          have hew := (on.1.2.2.2.2 (og m i - 1) (by omega) (by rw [g2]; omega)).1
          have e85 : (85 : Int32) + nI i = nI (85 + i) := by rw [l32_85, nI_add]
          rw [fr_p (by omega)]
          refine Ev.pos (by rw [ni_le (by omega) (by omega)]; omega) ?_
          rw [e85]
          refine Ev.grd (ni_in (by omega) (by omega)) ?_
          rw [ni_cl (by omega), cm1 _ (by omega)]
          refine Ev.bind (x_takes g cm1 hi4 z.1) (fun h5 hh5 => ?_)
          obtain ⟨f5, c5⟩ := hh5
          refine Ev.bind (x_busesOf k1 c5 hF) (fun p hp => ?_)
          obtain ⟨p1, f6, -⟩ := hp
          have cb1 := ct_le (fun u => bo (lst (og (ctm m i)) u = u)) (ctm m i 2)
          have lay := x_lays (F := F) (w := m (85 + i)) (c5.fr f6 (by omega)) hi4 (by omega : og m i - 1 < 40) (fun q => g3 (by rw [← q]))
          have bus : (ct (fun u => bo (lst (og (ctm m i)) u = u)) (ctm m i 2) ≤ ct (fun u => bo (lst (og m) u = u)) (m 2)) ↔ Cn (cu (og m) (i + 1)) (i / 4) ((og m i - 1) / 4) := by
            rw [k2, ct_congr (p := fun u => bo (lst (og (ctm m i)) u = u)) (q := fun u => bo (lst (cu (og m) (i + 1)) u = u)) (fun u _ => by rw [o_lst (og_ctm on.1 hi4 z.1)])]
            exact cu_buses g hi4 z.1 h2 hev hew (fun a b hc ha => cn_lt on.1 hc ha)
          rw [k2] at cb1 bus p1
          by_cases y : Cn (cu (og m) (i + 1)) (i / 4) ((og m i - 1) / 4)
          · rw [show br m i = false from bo_f (fun q => q.2.2 y), if_neg (by simp)] at cs
            refine Ev.pos (by rw [p1, ni_le (by omega) (by omega)]; exact bus.mpr y) (Ev.bind lay (fun h7 hh7 => Ev.some ⟨by omega, ?_, nxt, ?_⟩))
            · dsimp only; rw [cs]; exact nI_add _ 0
            · exact f1.trans (cut_frame f5 f6 (by omega) hh7.1 cm1 (hh7.2.eqv (lym_ctm on.1 hi4 z.1)))
          · rw [show br m i = true from bo_p ⟨z.1, z.2, y⟩, if_pos rfl] at cs
            refine Ev.neg (by rw [p1, ni_le (by omega) (by omega)]; exact fun q => y (bus.mp q)) (Ev.bind lay (fun h7 hh7 => Ev.some ⟨by omega, ?_, nxt, ?_⟩))
            · dsimp only; rw [cs]; exact nI_1 _
            · exact f1.trans (cut_frame f5 f6 (by omega) hh7.1 cm1 (hh7.2.eqv (lym_ctm on.1 hi4 z.1)))
        · rw [show br m i = false from bo_f (fun q => z ⟨q.1, q.2.1⟩), if_neg (by simp)] at cs
          refine Ev.neg ?_ (Ev.some ⟨by omega, ?_, nxt, f1⟩)
          · by_cases w : og m i = 0
            · rw [w, fr_0, ni_le_mm (by omega)]; exact id
            · obtain ⟨g1, g2, g3⟩ := g i hi4 w
              have ne : og m i - 1 ≠ i := fun q => g3 (by rw [q])
              rw [fr_p (by omega), ni_le (by omega) (by omega)]
              omega
          · dsimp only; rw [cs]; rfl
