-- spare
noncomputable def bb (m : Nat → Nat) (v i : Nat) : Nat := bst (spq m v) (fun e => gp (ctm m e) v) i
theorem bb_s (m : Nat → Nat) (v i : Nat) : bb m v (i + 1) = if spq m v i = true ∧ (bb m v i = 0 ∨ gp (ctm m i) v < gp (ctm m (bb m v i - 1)) v) then i + 1 else bb m v i := rfl
theorem bb_in (m : Nat → Nat) (v i : Nat) : bb m v i ≤ i ∧ (bb m v i ≠ 0 → spq m v (bb m v i - 1) = true) := bst_in _ _ _
noncomputable def bl3 (m : Nat → Nat) (v B0 top : Nat) : Nat := if B0 = 0 then top else gp (ctm m (B0 - 1)) v
theorem q_spare {F : Nat} (hF : 1000 ≤ F) (x : Int32) : Gd (f11_spare F x) (f12_spare F x) := by
  refine gd_node (F := F) (x := x) (A := fun h => Option.bind (f2_cablesIn F x h) (fun o19 => Option.bind (f2_nodesIn F x o19.2) (fun o27 => if o19.1 = o27.1 then Option.bind (ce_it (fun (st : Int32 × Int32 × Int32 × Hp) => f11_spare_b43 F x st.1 st.2.1 st.2.2.1 st.2.2.2) F ((-1 : Int32), (1000000 : Int32), (0 : Int32), o27.2)) (fun o43 => if o43.1 = (-1 : Int32) then some ((-1 : Int32), o43.2) else Option.bind (f11_nodeOf F o43.1 o43.2) (fun o136 => Option.bind (f11_portOf F o43.1 o136.2) (fun o141 => some (((10 : Int32) * o136.1) + o141.1, o141.2)))) else some ((-1 : Int32), o27.2)))) (B := fun h => Option.bind (f12_isLoop F x h) (fun o15 => if o15.1 = 0 then Option.bind (f12_gapOf F x o15.2) (fun o28 => Option.bind (f12_sizeOf F x o28.2) (fun o34 => Option.bind (ce_it (fun (st : Int32 × Int32 × Int32 × Hp) => f12_spare_b42 F x o34.1 st.1 st.2.1 st.2.2.1 st.2.2.2) F ((-1 : Int32), o28.1, (0 : Int32), o34.2)) (fun o42 => some (o42.1, o42.2)))) else Option.bind (f12_sizeOf F x o15.2) (fun o34 => Option.bind (ce_it (fun (st : Int32 × Int32 × Int32 × Hp) => f12_spare_b42 F x o34.1 st.1 st.2.1 st.2.2.1 st.2.2.2) F ((-1 : Int32), (100000 : Int32), (0 : Int32), o34.2)) (fun o42 => some (o42.1, o42.2))))) (fun h => rfl) (fun h => rfl) ?_
  rintro m kn v on rfl hv
  have h2 := on.1.2.1
  have g := on.1.2.2.2.1
  have s10 : sz (og m) v ≤ 10 := ct_le _ _
  have c20 : cb (og m) v ≤ 20 := by
    unfold cb
    have := ct_le (eb (og m) v) 40
    omega
  -- an end that is none: not lesser
  have skip : ∀ (w X3 x2 : Int32) (i : Nat) (h : Hp), MN h m → i < 40 → ¬ (og m i ≠ 0 ∧ i < og m i - 1) → Ev (f12_spare_b42 F (nI v) w x2 X3 (nI i) h) (fun o => o = .inl (x2, X3, nI (i + 1), h)) := fun w X3 x2 i h c hi z => by
    have hog := og_le g hi
    unfold f12_spare_b42
    refine Ev.neg (by simp (disch := omega) only [up_s, up_k, up_j, mm_neg, mm_def, ni_lt, ni_le, ni_eq, ni_mm, mm_ni, ni_lt_mm, ni_le_mm, mm_lt_ni, mm_le_ni, mm_lt_mm, mm_le_mm, ni_cl, ni_in, nI_add, ni_mul, ni_div, ni_rem, ni_rem2, fr_sub, fr_mm, fr_ge0, fr_lt0, fr_inj, l32_0, l32_1, l32_2, l32_3, l32_4, l32_5, l32_6, l32_7, l32_8, l32_9, l32_10, l32_11, l32_12, l32_13, l32_14, l32_15, l32_16, l32_20, l32_24, l32_25, l32_26, l32_31, l32_32, l32_34, l32_35, l32_39, l32_40, l32_44, l32_45, l32_46, l32_47, l32_48, l32_49, l32_57, l32_58, l32_59, l32_63, l32_64, l32_85, l32_90, l32_97, l32_99, l32_100, l32_110, l32_112, l32_122, l32_124, l32_125, l32_255, l32_680, l32_699, l32_700, l32_999, l32_2500, l32_99999, l32_100000, l32_1000000, if_true, if_false, ite_true, ite_false, ce_nm, Option.bind, if_pos, if_neg]; omega) ?_
    rw [x_otherOf c hi]
    refine ev_bs (Ev.neg ?_ (Ev.some ?_))
    · dsimp only
      by_cases y : og m i = 0
      · rw [y, fr_0, ni_le_mm (by omega)]; exact id
      · obtain ⟨g1, g2, g3⟩ := g i hi y
        have ne : og m i - 1 ≠ i := fun q => g3 (by rw [q])
        rw [fr_p (by omega), ni_le (by omega) (by omega)]
        omega
    · rw [show nI i + 1 = nI (i + 1) from nI_1 _]
  by_cases eq : cb (og m) v = sz (og m) v
  · have lp : sz (og m) v ≤ cb (og m) v := by omega
    have gb : ∀ e, e < 40 → spq m v e = true → gp (ctm m e) v ≤ 60 := fun e he q => by
      obtain ⟨q1, q2, q3, q4⟩ := bo_t.mp q
      obtain ⟨k1, k2, k3, k4, k5⟩ := ok_ctm on.1 he q1
      have oc := og_ctm on.1 he q1
      refine gp_le k1 (by rw [k2]; exact hv) ?_
      rw [o_sz oc, o_cb oc, cu_szeq g he q1 (Or.inl q4)]
      have := cu_cb1 g he q1 q4 q3
      omega
    refine ⟨if bb m v 40 = 0 then mm else nI (10 * ((bb m v 40 - 1) / 4) + (bb m v 40 - 1) % 4), fun h c l => ?_, fun h c => ?_⟩
    · have b := net_le c.2.1
      have cs := c.cs l
      rw [x_cablesIn on.1 cs hv]
      refine ev_bs ?_
      dsimp only
      rw [x_nodesIn on.1 cs hv]
      refine ev_bs (Ev.pos (by dsimp only; rw [eq]) ?_)
      dsimp only
      refine Ev.bind (P := fun o => o.1 = fr (bb m v 40) ∧ Sc h o.2) ?_ (fun o ho => ?_)
      · refine Ev.it (I := fun i st => st.1 = fr (bb m v i) ∧ st.2.1 = nI (bl3 m v (bb m v i) 1000000) ∧ st.2.2.1 = nI i ∧ Fr 40 43 h st.2.2.2) _ 40 ?_ F 0 _ (by omega) (by omega) ⟨rfl, rfl, rfl, Fr.refl _ _ _⟩
        rintro i ⟨x2, x3, x4, h1⟩ hi hI
        obtain ⟨rfl, rfl, rfl, f1⟩ : x2 = fr (bb m v i) ∧ x3 = nI (bl3 m v (bb m v i) 1000000) ∧ x4 = nI i ∧ Fr 40 43 h h1 := hI
        have bi := bb_in m v i
        have bs := bb_s m v i
        show Ev (f11_spare_b43 F (nI v) (fr (bb m v i)) (nI (bl3 m v (bb m v i) 1000000)) (nI i) h1) _
        have c1 := c.sc (f1.sc (by omega))
        have cs1 := c1.cs (c1.liv hv)
        have nxt : nI i + 1 = nI (i + 1) := nI_1 _
        unfold f11_spare_b43
        by_cases hin : 40 ≤ i
        · have hi40 : i = 40 := by omega
          refine Ev.pos (by simp (disch := omega) only [up_s, up_k, up_j, mm_neg, mm_def, ni_lt, ni_le, ni_eq, ni_mm, mm_ni, ni_lt_mm, ni_le_mm, mm_lt_ni, mm_le_ni, mm_lt_mm, mm_le_mm, ni_cl, ni_in, nI_add, ni_mul, ni_div, ni_rem, ni_rem2, fr_sub, fr_mm, fr_ge0, fr_lt0, fr_inj, l32_0, l32_1, l32_2, l32_3, l32_4, l32_5, l32_6, l32_7, l32_8, l32_9, l32_10, l32_11, l32_12, l32_13, l32_14, l32_15, l32_16, l32_20, l32_24, l32_25, l32_26, l32_31, l32_32, l32_34, l32_35, l32_39, l32_40, l32_44, l32_45, l32_46, l32_47, l32_48, l32_49, l32_57, l32_58, l32_59, l32_63, l32_64, l32_85, l32_90, l32_97, l32_99, l32_100, l32_110, l32_112, l32_122, l32_124, l32_125, l32_255, l32_680, l32_699, l32_700, l32_999, l32_2500, l32_99999, l32_100000, l32_1000000, if_true, if_false, ite_true, ite_false, ce_nm, Option.bind, if_pos, if_neg]; exact hin) (Ev.some ⟨by rw [hi40], f1.sc (by omega)⟩)
        · have hi4 : i < 40 := by omega
          have same : spq m v i = false → bb m v (i + 1) = bb m v i := fun q => by rw [bs, q, if_neg (by simp)]
          refine Ev.neg (by simp (disch := omega) only [up_s, up_k, up_j, mm_neg, mm_def, ni_lt, ni_le, ni_eq, ni_mm, mm_ni, ni_lt_mm, ni_le_mm, mm_lt_ni, mm_le_ni, mm_lt_mm, mm_le_mm, ni_cl, ni_in, nI_add, ni_mul, ni_div, ni_rem, ni_rem2, fr_sub, fr_mm, fr_ge0, fr_lt0, fr_inj, l32_0, l32_1, l32_2, l32_3, l32_4, l32_5, l32_6, l32_7, l32_8, l32_9, l32_10, l32_11, l32_12, l32_13, l32_14, l32_15, l32_16, l32_20, l32_24, l32_25, l32_26, l32_31, l32_32, l32_34, l32_35, l32_39, l32_40, l32_44, l32_45, l32_46, l32_47, l32_48, l32_49, l32_57, l32_58, l32_59, l32_63, l32_64, l32_85, l32_90, l32_97, l32_99, l32_100, l32_110, l32_112, l32_122, l32_124, l32_125, l32_255, l32_680, l32_699, l32_700, l32_999, l32_2500, l32_99999, l32_100000, l32_1000000, if_true, if_false, ite_true, ite_false, ce_nm, Option.bind, if_pos, if_neg]; exact hin) (Ev.nm ?_)
          rw [c1.1, ni_cl (by omega)]
          refine Ev.grd c1.2.1 ?_
          rw [x_isLesser on.1 c1.2.2.2.2.1.1 hi4]
          refine ev_bs ?_
          dsimp only
          by_cases z : og m i ≠ 0 ∧ i < og m i - 1
          · have hev := (on.1.2.2.2.2 i hi4 z.1).1
            refine Ev.neg (by rw [if_pos z]; decide) ?_
            rw [x_nodeOf _ _ _ (by omega)]
            refine ev_bs ?_
            dsimp only
            rw [x_areOne on.1 cs1 hv hev]
            refine ev_bs ?_
            dsimp only
            by_cases y : Cn (og m) v (i / 4)
            · refine Ev.neg (by rw [bo_p y]; decide) (Ev.nm ?_)
              rw [c1.1, ni_cl (by omega)]
              refine Ev.grd c1.2.1 (Ev.bind (x_isBridge c1 hi4 z.1 hF) (fun o ho => ?_))
              have f5 := f1.trans ho.2
              by_cases u : Cn (cu (og m) (i + 1)) (i / 4) ((og m i - 1) / 4)
              · have sq : spq m v i = true := bo_p ⟨z.1, z.2, y, u⟩
                have gi := gb i hi4 sq
                refine Ev.pos (by rw [ho.1, bo_p u]; rfl) ?_
                have c5 := c.sc (f5.sc (by omega))
                obtain ⟨L, tr'⟩ := x_cgap (F := F) on.1 (c5.cs (c5.liv hv)) hv hi4 z.1 y u eq hF
                refine Ev.bind L (fun p hp => ?_)
                have f6 := f5.trans hp.2
                have k := ok_ctm on.1 hi4 z.1
                have ll := Lg_le k.1 (by rw [k.2.1]; exact hv) tr'
                have gv : f11_gapFor F p.1 p.2 = some (nI (gp (ctm m i) v), p.2) := by
                  unfold f11_gapFor
                  rw [hp.1, l32_2, ni_mul, l32_5, nI_add, l32_7, nI_add, l32_8, ni_div (by omega) (by omega) (by omega)]
                  rfl
                rw [gv]
                refine ev_bs ?_
                dsimp only
                have xb : bl3 m v (bb m v i) 1000000 ≤ 1000000 := by
                  unfold bl3
                  by_cases w : bb m v i = 0
                  · rw [if_pos w]; omega
                  · rw [if_neg w]
                    have := gb (bb m v i - 1) (by omega) (bi.2 w)
                    omega
                by_cases t : bl3 m v (bb m v i) 1000000 ≤ gp (ctm m i) v
                · have e1 : bb m v (i + 1) = bb m v i := by
                    rw [bs, if_neg]
                    rintro ⟨-, q⟩
                    unfold bl3 at t
                    by_cases w : bb m v i = 0
                    · rw [if_pos w] at t; omega
                    · rw [if_neg w] at t; omega
                  exact Ev.pos (by rw [ni_le (by omega) (by omega)]; exact t) (Ev.some ⟨by omega, by dsimp only; rw [e1], by dsimp only; rw [e1], nxt, f6⟩)
                · have e1 : bb m v (i + 1) = i + 1 := by
                    rw [bs, if_pos]
                    refine ⟨sq, ?_⟩
                    unfold bl3 at t
                    by_cases w : bb m v i = 0
                    · exact Or.inl w
                    · rw [if_neg w] at t; omega
                  refine Ev.neg (by rw [ni_le (by omega) (by omega)]; exact t) (Ev.some ⟨by omega, ?_, ?_, nxt, f6⟩)
                  · dsimp only; rw [e1, fr_s]
                  · dsimp only; rw [e1]; rfl
              · have e1 := same (bo_f (fun q => u q.2.2.2))
                exact Ev.neg (by rw [ho.1, bo_f u]; decide) (Ev.some ⟨by omega, by dsimp only; rw [e1], by dsimp only; rw [e1], nxt, f5⟩)
            · have e1 := same (bo_f (fun q => y q.2.2.1))
              exact Ev.pos (by rw [bo_f y]; rfl) (Ev.some ⟨by omega, by dsimp only; rw [e1], by dsimp only; rw [e1], nxt, f1⟩)
          · have e1 := same (bo_f (fun q => z ⟨q.1, q.2.1⟩))
            exact Ev.pos (by rw [if_neg z]; rfl) (Ev.some ⟨by omega, by dsimp only; rw [e1], by dsimp only; rw [e1], nxt, f1⟩)
      · have b40 := (bb_in m v 40).1
        by_cases w : bb m v 40 = 0
        · refine Ev.pos (by rw [ho.1, w]; rfl) (Ev.some ⟨?_, ho.2⟩)
          rw [if_pos w]
          rfl
        · refine Ev.neg (by rw [ho.1]; simp (disch := omega) only [up_s, up_k, up_j, mm_neg, mm_def, ni_lt, ni_le, ni_eq, ni_mm, mm_ni, ni_lt_mm, ni_le_mm, mm_lt_ni, mm_le_ni, mm_lt_mm, mm_le_mm, ni_cl, ni_in, nI_add, ni_mul, ni_div, ni_rem, ni_rem2, fr_sub, fr_mm, fr_ge0, fr_lt0, fr_inj, l32_0, l32_1, l32_2, l32_3, l32_4, l32_5, l32_6, l32_7, l32_8, l32_9, l32_10, l32_11, l32_12, l32_13, l32_14, l32_15, l32_16, l32_20, l32_24, l32_25, l32_26, l32_31, l32_32, l32_34, l32_35, l32_39, l32_40, l32_44, l32_45, l32_46, l32_47, l32_48, l32_49, l32_57, l32_58, l32_59, l32_63, l32_64, l32_85, l32_90, l32_97, l32_99, l32_100, l32_110, l32_112, l32_122, l32_124, l32_125, l32_255, l32_680, l32_699, l32_700, l32_999, l32_2500, l32_99999, l32_100000, l32_1000000, if_true, if_false, ite_true, ite_false, ce_nm, Option.bind, if_pos, if_neg]; exact w) ?_
          rw [ho.1, fr_p (by omega), x_nodeOf _ _ _ (by omega)]
          refine ev_bs ?_
          dsimp only
          rw [x_portOf _ _ _ (by omega)]
          refine ev_bs (Ev.some ⟨?_, ho.2⟩)
          dsimp only
          rw [if_neg w, l32_10, ni_mul, nI_add]
    · have cm := c.2.2.2.1
      refine Ev.bind (x_isLoop on.1 cm hv hF) (fun o ho => ?_)
      obtain ⟨o1, f0, -⟩ := ho
      refine Ev.neg (by rw [o1, if_pos lp]; decide) (Ev.bind (x_sizeOf on.1 (cm.fr f0 (by omega)) hv hF) (fun p hp => ?_))
      obtain ⟨p1, f0', -⟩ := hp
      have fs0 : Fr 75 85 h p.2 := (f0.wide (by omega) (by omega)).trans (f0'.wide (by omega) (by omega))
      rw [p1]
      refine Ev.bind (P := fun o => o.1 = (if bb m v 40 = 0 then mm else nI (10 * ((bb m v 40 - 1) / 4) + (bb m v 40 - 1) % 4)) ∧ Sc h o.2) ?_ (fun o ho => Ev.some ho)
      refine Ev.it (I := fun i st => st.1 = (if bb m v i = 0 then mm else nI (10 * ((bb m v i - 1) / 4) + (bb m v i - 1) % 4)) ∧ st.2.1 = nI (bl3 m v (bb m v i) 100000) ∧ st.2.2.1 = nI i ∧ Fr 75 85 h st.2.2.2) _ 40 ?_ F 0 _ (by omega) (by omega) ⟨rfl, rfl, rfl, fs0⟩
      rintro i ⟨x2, x3, x5, h1⟩ hi hI
      obtain ⟨rfl, rfl, rfl, f1⟩ : x2 = (if bb m v i = 0 then mm else nI (10 * ((bb m v i - 1) / 4) + (bb m v i - 1) % 4)) ∧ x3 = nI (bl3 m v (bb m v i) 100000) ∧ x5 = nI i ∧ Fr 75 85 h h1 := hI
      show Ev (f12_spare_b42 F (nI v) (nI (sz (og m) v)) (if bb m v i = 0 then mm else nI (10 * ((bb m v i - 1) / 4) + (bb m v i - 1) % 4)) (nI (bl3 m v (bb m v i) 100000)) (nI i) h1) _
      have bi := bb_in m v i
      have bs := bb_s m v i
      have cm1 := cm.fr f1 (by omega)
      by_cases hin : 40 ≤ i
      · have hi40 : i = 40 := by omega
        unfold f12_spare_b42
        exact Ev.pos (by simp (disch := omega) only [up_s, up_k, up_j, mm_neg, mm_def, ni_lt, ni_le, ni_eq, ni_mm, mm_ni, ni_lt_mm, ni_le_mm, mm_lt_ni, mm_le_ni, mm_lt_mm, mm_le_mm, ni_cl, ni_in, nI_add, ni_mul, ni_div, ni_rem, ni_rem2, fr_sub, fr_mm, fr_ge0, fr_lt0, fr_inj, l32_0, l32_1, l32_2, l32_3, l32_4, l32_5, l32_6, l32_7, l32_8, l32_9, l32_10, l32_11, l32_12, l32_13, l32_14, l32_15, l32_16, l32_20, l32_24, l32_25, l32_26, l32_31, l32_32, l32_34, l32_35, l32_39, l32_40, l32_44, l32_45, l32_46, l32_47, l32_48, l32_49, l32_57, l32_58, l32_59, l32_63, l32_64, l32_85, l32_90, l32_97, l32_99, l32_100, l32_110, l32_112, l32_122, l32_124, l32_125, l32_255, l32_680, l32_699, l32_700, l32_999, l32_2500, l32_99999, l32_100000, l32_1000000, if_true, if_false, ite_true, ite_false, ce_nm, Option.bind, if_pos, if_neg]; exact hin) (Ev.some ⟨by rw [hi40], f1.sc (by omega)⟩)
      · have hi4 : i < 40 := by omega
        have same : spq m v i = false → bb m v (i + 1) = bb m v i := fun q => by rw [bs, q, if_neg (by simp)]
        by_cases z : og m i ≠ 0 ∧ i < og m i - 1
        · have xb : bl3 m v (bb m v i) 100000 ≤ 1000000 := by
            unfold bl3
            by_cases w : bb m v i = 0
            · rw [if_pos w]; omega
            · rw [if_neg w]
              have := gb (bb m v i - 1) (by omega) (bi.2 w)
              omega
          refine Ev.mono (x_sparestep on.1 cm1 hv hi4 z.1 z.2 xb hF) (fun o ho => ?_)
          obtain ⟨h5, rfl, f5⟩ := ho
          have f6 := f1.trans f5
          have uq : spU m v i (bl3 m v (bb m v i) 100000) = true ↔ (spq m v i = true ∧ (bb m v i = 0 ∨ gp (ctm m i) v < gp (ctm m (bb m v i - 1)) v)) := by
            unfold spU
            rw [bo_t]
            rcases sp_cases on.1 hv hi4 z.1 with ⟨a1, a2, a3⟩ | ⟨a1, a2, a3⟩ | ⟨a1, a2, a3, a4⟩
            · constructor
              · rintro ⟨q1, q2, q3⟩; omega
              · rintro ⟨q1, q2⟩; exact absurd (bo_t.mp q1).2.2.1 a1
            · constructor
              · rintro ⟨q1, q2, q3⟩; exact absurd q1 a3
              · rintro ⟨q1, q2⟩; exact absurd (bo_t.mp q1).2.2.2 a2
            · have sq : spq m v i = true := bo_p ⟨z.1, z.2, a1, a2⟩
              have gi := gb i hi4 sq
              unfold bl3
              constructor
              · rintro ⟨q1, q2, q3⟩
                refine ⟨sq, ?_⟩
                by_cases w : bb m v i = 0
                · exact Or.inl w
                · rw [if_neg w] at q3; exact Or.inr q3
              · rintro ⟨q1, q2⟩
                refine ⟨a3, by omega, ?_⟩
                by_cases w : bb m v i = 0
                · rw [if_pos w]; omega
                · rw [if_neg w]; omega
          by_cases t : spU m v i (bl3 m v (bb m v i) 100000) = true
          · have e1 : bb m v (i + 1) = i + 1 := by rw [bs, if_pos (uq.mp t)]
            refine ⟨by omega, ?_, ?_, rfl, f6⟩
            · dsimp only; rw [if_pos t, e1, if_neg (by omega)]; rfl
            · dsimp only; rw [if_pos t, e1]; rfl
          · have e1 : bb m v (i + 1) = bb m v i := by rw [bs, if_neg (fun q => t (uq.mpr q))]
            refine ⟨by omega, ?_, ?_, rfl, f6⟩
            · dsimp only; rw [if_neg t, e1]
            · dsimp only; rw [if_neg t, e1]
        · have e1 := same (bo_f (fun q => z ⟨q.1, q.2.1⟩))
          refine Ev.mono (skip _ _ _ i h1 cm1 hi4 z) (fun o ho => ?_)
          rw [ho]
          exact ⟨by omega, by dsimp only; rw [e1], by dsimp only; rw [e1], rfl, f1⟩
  · refine ⟨mm, fun h c l => ?_, fun h c => ?_⟩
    · have cs := c.cs l
      rw [x_cablesIn on.1 cs hv]
      refine ev_bs ?_
      dsimp only
      rw [x_nodesIn on.1 cs hv]
      exact ev_bs (Ev.neg (by dsimp only; rw [ni_eq (by omega) (by omega)]; exact eq) (Ev.some ⟨rfl, Sc.refl _⟩))
    · have cm := c.2.2.2.1
      -- nothing is ever better
      have run : ∀ (X : Nat) (h1 : Hp), X ≤ 1000000 → Fr 75 85 h h1 → (¬ sz (og m) v ≤ cb (og m) v → X = gp m v) → Ev (ce_it (fun (st : Int32 × Int32 × Int32 × Hp) => f12_spare_b42 F (nI v) (nI (sz (og m) v)) st.1 st.2.1 st.2.2.1 st.2.2.2) F ((-1 : Int32), nI X, (0 : Int32), h1)) (fun o => o.1 = mm ∧ Sc h o.2) := fun X h1 hX f1 hXg => by
        refine Ev.it (I := fun i st => st.1 = mm ∧ st.2.1 = nI X ∧ st.2.2.1 = nI i ∧ Fr 75 85 h st.2.2.2) _ 40 ?_ F 0 _ (by omega) (by omega) ⟨rfl, rfl, rfl, f1⟩
        rintro i ⟨x2, x3, x5, h3⟩ hi hI
        obtain ⟨rfl, rfl, rfl, f3⟩ : x2 = mm ∧ x3 = nI X ∧ x5 = nI i ∧ Fr 75 85 h h3 := hI
        show Ev (f12_spare_b42 F (nI v) (nI (sz (og m) v)) mm (nI X) (nI i) h3) _
        have cm3 := cm.fr f3 (by omega)
        by_cases hin : 40 ≤ i
        · unfold f12_spare_b42
          exact Ev.pos (by simp (disch := omega) only [up_s, up_k, up_j, mm_neg, mm_def, ni_lt, ni_le, ni_eq, ni_mm, mm_ni, ni_lt_mm, ni_le_mm, mm_lt_ni, mm_le_ni, mm_lt_mm, mm_le_mm, ni_cl, ni_in, nI_add, ni_mul, ni_div, ni_rem, ni_rem2, fr_sub, fr_mm, fr_ge0, fr_lt0, fr_inj, l32_0, l32_1, l32_2, l32_3, l32_4, l32_5, l32_6, l32_7, l32_8, l32_9, l32_10, l32_11, l32_12, l32_13, l32_14, l32_15, l32_16, l32_20, l32_24, l32_25, l32_26, l32_31, l32_32, l32_34, l32_35, l32_39, l32_40, l32_44, l32_45, l32_46, l32_47, l32_48, l32_49, l32_57, l32_58, l32_59, l32_63, l32_64, l32_85, l32_90, l32_97, l32_99, l32_100, l32_110, l32_112, l32_122, l32_124, l32_125, l32_255, l32_680, l32_699, l32_700, l32_999, l32_2500, l32_99999, l32_100000, l32_1000000, if_true, if_false, ite_true, ite_false, ce_nm, Option.bind, if_pos, if_neg]; exact hin) (Ev.some ⟨rfl, f3.sc (by omega)⟩)
        · have hi4 : i < 40 := by omega
          by_cases z : og m i ≠ 0 ∧ i < og m i - 1
          · refine Ev.mono (x_sparestep on.1 cm3 hv hi4 z.1 z.2 hX hF) (fun o ho => ?_)
            obtain ⟨h5, rfl, f5⟩ := ho
            have no : spU m v i X = false := bo_f (fun ⟨q1, q2, q3⟩ => by
              rcases sp_cases on.1 hv hi4 z.1 with ⟨a1, a2, a3⟩ | ⟨a1, a2, a3⟩ | ⟨a1, a2, a3, a4⟩
              · have tr : ¬ sz (og m) v ≤ cb (og m) v := by omega
                have := gp_else on.1 hv hi4 z.1 tr a1
                have := hXg tr
                omega
              · exact a3 q1
              · by_cases tr : sz (og m) v ≤ cb (og m) v
                · omega
                · exact tree_bridge on.1 hi4 z.1 hv a1 tr a2)
            rw [no]
            exact ⟨by omega, rfl, rfl, rfl, f3.trans f5⟩
          · refine Ev.mono (skip _ _ _ i h3 cm3 hi4 z) (fun o ho => ?_)
            rw [ho]
            exact ⟨by omega, rfl, rfl, rfl, f3⟩
      refine Ev.bind (x_isLoop on.1 cm hv hF) (fun o ho => ?_)
      obtain ⟨o1, f0, -⟩ := ho
      by_cases lp : sz (og m) v ≤ cb (og m) v
      · refine Ev.neg (by rw [o1, if_pos lp]; decide) (Ev.bind (x_sizeOf on.1 (cm.fr f0 (by omega)) hv hF) (fun p hp => ?_))
        obtain ⟨p1, f0', -⟩ := hp
        rw [p1]
        exact Ev.bind (run 100000 p.2 (by omega) ((f0.wide (by omega) (by omega)).trans (f0'.wide (by omega) (by omega))) (fun q => absurd lp q)) (fun o ho => Ev.some ho)
      · have gl := gp_le on.1 hv lp
        refine Ev.pos (by rw [o1, if_neg lp]; rfl) (Ev.bind (x_mgap on.1 (cm.fr f0 (by omega)) hv lp hF) (fun q hq => ?_))
        have fq : Fr 75 85 h q.2 := (f0.wide (by omega) (by omega)).trans hq.2
        refine Ev.bind (x_sizeOf on.1 (cm.fr fq (by omega)) hv hF) (fun p hp => ?_)
        obtain ⟨p1, f0', -⟩ := hp
        rw [p1, hq.1]
        exact Ev.bind (run (gp m v) p.2 (by omega) (fq.trans (f0'.wide (by omega) (by omega))) (fun _ => rfl)) (fun o ho => Ev.some ho)
