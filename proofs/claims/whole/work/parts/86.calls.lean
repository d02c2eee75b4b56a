-- calls that ask for one node: root, settled, called, rounds, taken, size, parent
theorem mx_s (f : Nat → Nat) (n : Nat) : mx f (n + 1) = max (mx f n) (f n) := rfl
theorem Liv.el {h : Hp} {m : Nat → Nat} (l : Liv h m) {v : Nat} (hv : v < 10) : h (48 + 1) v = fr (sM m 1 v) ∧ h (48 + 2) v = fr (Rf m (sM m) v) ∧ h (48 + 3) v = nI (Kf m (sM m) v) ∧ h (48 + 4) v = fr (Pf m (sM m) v) := l.2.1 v hv
theorem MF.el {h : Hp} {m : Nat → Nat} {s : Es} (l : MF h m s) {v : Nat} (hv : v < m 2) : h 77 v = fr (s 1 v) ∧ h 80 v = fr (Rf m s v) ∧ h 81 v = nI (Kf m s v) ∧ h 82 v = fr (Pf m s v) := l v hv
theorem MF.eqv {h h' : Hp} {m : Nat → Nat} {s : Es} (l : MF h m s) (f : ∀ c, 76 ≤ c → c ≤ 82 → h' c = h c) : MF h' m s := fun v hv => by
  rw [f 77 (by omega) (by omega), f 80 (by omega) (by omega), f 81 (by omega) (by omega), f 82 (by omega) (by omega)]
  exact l v hv
theorem OkN.fs {m : Nat → Nat} (on : OkN m) : FS m (wtm m) (sM m) := FS_of on.1 (wtm_le on.2.2.1)
theorem OkN.rb {m : Nat → Nat} (on : OkN m) : ∀ v, v < 10 → Rf m (sM m) v < 100000 ∧ (Rf m (sM m) v ≠ 0 → v < m 2) := fun v hv => ⟨on.fs.rle hv, fun q => on.fs.rlt hv q⟩
theorem gd_node {F : Nat} {x : Int32} {a b A B : Hp → Option (Int32 × Hp)} (ea : ∀ h, a h = ce_nm ((h 0 2).toNatClampNeg) (fun k_1 => if ce_isNet k_1 then Option.bind (f5_hasNode F k_1 x h) (fun o5 => if o5.1 = 0 then some ((-2 : Int32), o5.2) else A o5.2) else none)) (eb : ∀ h, b h = Option.bind (f12_isNode F x h) (fun o2 => if o2.1 = 0 then some ((-2 : Int32), o2.2) else B o2.2))
    (body : ∀ m kn v, OkN m → x = nI v → v < m 2 → ∃ V : Int32, (∀ h, Co h m kn → Liv h m → Ev (A h) (fun o => o.1 = V ∧ Sc h o.2)) ∧ ∀ h, Co h m kn → Ev (B h) (fun o => o.1 = V ∧ Sc h o.2)) : Gd a b := by
  intro m kn
  by_cases on : OkN m
  rotate_left
  · exact ⟨0, fun h c => absurd c.2.2.1 on, fun h c => absurd c.2.2.1 on⟩
  have ca : ∀ h, Co h m kn → a h = Option.bind (some (if isN m x = true then nI 1 else nI 0, h)) (fun o5 => if o5.1 = 0 then some ((-2 : Int32), o5.2) else A o5.2) := fun h c => by
    have b := net_le c.2.1
    rw [ea]
    show (if ce_isNet (h 0 2).toNatClampNeg then _ else none) = _
    rw [c.1, ni_cl (by omega), if_pos c.2.1, x_hasNode x on.1.2.1 c.2.2.2.2.1.1.2.1]
  have cb : ∀ h, Co h m kn → b h = Option.bind (some (if isN m x = true then nI 1 else nI 0, h)) (fun o2 => if o2.1 = 0 then some ((-2 : Int32), o2.2) else B o2.2) := fun h c => by
    rw [eb, x_isNode x on.1.2.1 c.2.2.2.1]
  by_cases nx : isN m x = false
  · refine ⟨-2, fun h c => ?_, fun h c => ?_⟩
    · rw [ca h c, nx]
      exact ev_bs (Ev.pos rfl (Ev.some ⟨rfl, Sc.refl _⟩))
    · rw [cb h c, nx]
      exact ev_bs (Ev.pos rfl (Ev.some ⟨rfl, Sc.refl _⟩))
  · obtain ⟨v, hv, rfl⟩ := isN_ex nx
    obtain ⟨V, v1, v2⟩ := body m kn v on rfl hv
    have n1 : ¬ (nI 1 : Int32) = 0 := by decide
    refine ⟨V, fun h c => ?_, fun h c => ?_⟩
    · rw [ca h c, isN_t hv]
      exact ev_bs (Ev.neg n1 (v1 h c (c.liv hv)))
    · rw [cb h c, isN_t hv]
      exact ev_bs (Ev.neg n1 (v2 h c))
theorem q_root {F : Nat} (hF : 1000 ≤ F) (x : Int32) : Gd (f11_root F x) (f12_root F x) := by
  refine gd_ref hF (A := fun h => Option.bind (f3_rootIn F 48 x h) (fun o23 => some (o23.1, o23.2))) (B := fun h => Option.bind (f12_rootOf F x h) (fun o16 => some (o16.1, o16.2))) (fun h => rfl) (fun h => rfl) ?_
  rintro m kn v r hp on rfl ⟨hv, hr, hc, hR, T, hfi, tr⟩
  refine ⟨nI r, fun h c l => ?_, fun h c mf lb => ?_⟩
  · rw [x_rootIn on.1 (c.cs l) (fun v hv => (l.el hv).2.1) on.rb hv hF, hfi, fr_s]
    exact ev_bs (Ev.some ⟨rfl, Sc.refl _⟩)
  · refine Ev.bind (x_rootOf on.1 c.2.2.2.1 (fun v hv => (mf.el hv).2.1) on.rb hv hF) (fun o ho => Ev.some ⟨?_, ho.2.1.sc (by omega)⟩)
    rw [ho.1, hfi, fr_s]
theorem q_settled {F : Nat} (hF : 1000 ≤ F) (x : Int32) : Gd (f11_settled F x) (f12_settled F x) := by
  refine gd_ref hF (A := fun h => Option.bind (f3_rootIn F 48 x h) (fun o21 => if o21.1 = (-1 : Int32) then some ((-1 : Int32), o21.2) else if ce_in o21.1 10 = true then some (o21.2 (48 + 2) (o21.1).toNatClampNeg, o21.2) else none)) (B := fun h => Option.bind (f12_rootOf F x h) (fun o20 => if ce_in o20.1 10 = true then some (o20.2 80 (o20.1).toNatClampNeg, o20.2) else none)) (fun h => rfl) (fun h => rfl) ?_
  rintro m kn v r hp on rfl ⟨hv, hr, hc, hR, T, hfi, tr⟩
  have hr10 := T.2.2.1
  refine ⟨fr (Rf m (sM m) r), fun h c l => ?_, fun h c mf lb => ?_⟩
  · rw [x_rootIn on.1 (c.cs l) (fun v hv => (l.el hv).2.1) on.rb hv hF, hfi, fr_s]
    refine ev_bs ?_
    dsimp only
    refine Ev.neg (by simp (disch := omega) only [up_s, up_k, up_j, mm_neg, mm_def, ni_lt, ni_le, ni_eq, ni_mm, mm_ni, ni_lt_mm, ni_le_mm, mm_lt_ni, mm_le_ni, mm_lt_mm, mm_le_mm, ni_cl, ni_in, nI_add, ni_mul, ni_div, ni_rem, ni_rem2, fr_sub, fr_mm, fr_ge0, fr_lt0, fr_inj, l32_0, l32_1, l32_2, l32_3, l32_4, l32_5, l32_6, l32_7, l32_8, l32_9, l32_10, l32_11, l32_12, l32_13, l32_14, l32_15, l32_16, l32_20, l32_24, l32_25, l32_26, l32_31, l32_32, l32_34, l32_35, l32_39, l32_40, l32_44, l32_45, l32_46, l32_47, l32_48, l32_49, l32_57, l32_58, l32_59, l32_63, l32_64, l32_85, l32_90, l32_97, l32_99, l32_100, l32_110, l32_112, l32_122, l32_124, l32_125, l32_255, l32_680, l32_699, l32_700, l32_999, l32_2500, l32_99999, l32_100000, l32_1000000, if_true, if_false, ite_true, ite_false, ce_nm, Option.bind, if_pos, if_neg]; exact id) (Ev.grd (ni_in (by omega) hr10) (Ev.some ⟨?_, Sc.refl _⟩))
    rw [ni_cl (by omega)]
    exact (l.el hr10).2.1
  · refine Ev.bind (x_rootOf on.1 c.2.2.2.1 (fun v hv => (mf.el hv).2.1) on.rb hv hF) (fun o ho => ?_)
    rw [ho.1, hfi, fr_s]
    refine Ev.grd (ni_in (by omega) hr10) (Ev.some ⟨?_, ho.2.1.sc (by omega)⟩)
    rw [ni_cl (by omega), ho.2.1 80 (by omega)]
    exact (mf.el hr).2.1
theorem q_called {F : Nat} (hF : 1000 ≤ F) (x : Int32) : Gd (f11_called F x) (f12_called F x) := by
  refine gd_node (F := F) (x := x) (A := fun h => if ce_in x 10 = true then some (h (48 + 1) (x).toNatClampNeg, h) else none) (B := fun h => Option.bind (f12_runs F h) (fun o12 => if ce_in x 10 = true then some (o12 77 (x).toNatClampNeg, o12) else none)) (fun h => rfl) (fun h => rfl) ?_
  rintro m kn v on rfl hv
  have h2 := on.1.2.1
  refine ⟨fr (sM m 1 v), fun h c l => ?_, fun h c => ?_⟩
  · refine Ev.grd (ni_in (by omega) (by omega)) (Ev.some ⟨?_, Sc.refl _⟩)
    rw [ni_cl (by omega)]
    exact (l.el (by omega)).1
  · refine Ev.bind (x_runs on.1 on.2.1 on.2.2.1 on.2.2.2.1 c.2.2.2.1 hF) (fun h1 hh => Ev.grd (ni_in (by omega) (by omega)) (Ev.some ⟨?_, hh.1.sc (by omega)⟩))
    rw [ni_cl (by omega)]
    exact (hh.2 v hv).1
theorem q_taken {F : Nat} (hF : 1000 ≤ F) (x : Int32) : Gd (f11_taken F x) (f12_taken F x) := by
  refine gd_node (F := F) (x := x) (A := fun h => if ce_in x 10 = true then some (h (48 + 3) (x).toNatClampNeg, h) else none) (B := fun h => Option.bind (f12_runs F h) (fun o12 => if ce_in x 10 = true then some (o12 81 (x).toNatClampNeg, o12) else none)) (fun h => rfl) (fun h => rfl) ?_
  rintro m kn v on rfl hv
  have h2 := on.1.2.1
  refine ⟨nI (Kf m (sM m) v), fun h c l => ?_, fun h c => ?_⟩
  · refine Ev.grd (ni_in (by omega) (by omega)) (Ev.some ⟨?_, Sc.refl _⟩)
    rw [ni_cl (by omega)]
    exact (l.el (by omega)).2.2.1
  · refine Ev.bind (x_runs on.1 on.2.1 on.2.2.1 on.2.2.2.1 c.2.2.2.1 hF) (fun h1 hh => Ev.grd (ni_in (by omega) (by omega)) (Ev.some ⟨?_, hh.1.sc (by omega)⟩))
    rw [ni_cl (by omega)]
    exact (hh.2 v hv).2.2.1
theorem q_size {F : Nat} (hF : 1000 ≤ F) (x : Int32) : Gd (f11_size F x) (f12_size F x) := by
  refine gd_node (F := F) (x := x) (A := fun h => Option.bind (f2_nodesIn F x h) (fun o16 => some (o16.1, o16.2))) (B := fun h => Option.bind (f12_sizeOf F x h) (fun o10 => some (o10.1, o10.2))) (fun h => rfl) (fun h => rfl) ?_
  rintro m kn v on rfl hv
  refine ⟨nI (sz (og m) v), fun h c l => ?_, fun h c => ?_⟩
  · rw [x_nodesIn on.1 (c.cs l) hv]
    exact ev_bs (Ev.some ⟨rfl, Sc.refl _⟩)
  · exact Ev.bind (x_sizeOf on.1 c.2.2.2.1 hv hF) (fun o ho => Ev.some ⟨ho.1, ho.2.1.sc (by omega)⟩)
theorem q_parent {F : Nat} (hF : 1000 ≤ F) (x : Int32) : Gd (f11_parent F x) (f12_parent F x) := by
  refine gd_ref hF (A := fun h => ce_nm ((h 0 2).toNatClampNeg) (fun k_19 => if ce_isNet k_19 then Option.bind (f3_parentOf F 48 k_19 x h) (fun o23 => some (o23.1, o23.2)) else none)) (B := fun h => Option.bind (f12_parentOf F x h) (fun o16 => some (o16.1, o16.2))) (fun h => rfl) (fun h => rfl) ?_
  rintro m kn v r hp on rfl ⟨hv, hr, hc, hR, T, hfi, tr⟩
  have h2 := on.1.2.1
  refine ⟨fr (par (og m) (Pf m (sM m)) v), fun h c l => ?_, fun h c mf lb => ?_⟩
  · have b := net_le c.2.1
    refine Ev.nm ?_
    rw [c.1, ni_cl (by omega)]
    refine Ev.grd c.2.1 ?_
    rw [x_cparent on.1 c.2.2.2.2.1.1 T.2.1 (fun v hv => (l.el hv).2.2.2) (by omega)]
    exact ev_bs (Ev.some ⟨rfl, Sc.refl _⟩)
  · rw [x_mparent on.1 c.2.2.2.1 T.2.1 (fun v hv => (mf.el hv).2.2.2) hv]
    exact ev_bs (Ev.some ⟨rfl, Sc.refl _⟩)
theorem x_areOne' {m : Nat → Nat} {k v w F : Nat} {h : Hp} (ok : OkG m) (c : CS h k m) (hv : v < m 2) (hw : w < 10) : f2_areOne F (nI v) (nI w) h = some (if bo (Cn (og m) v w) = true then nI 1 else nI 0, h) := by
  have h2 := ok.2.1
  by_cases z : w < m 2
  · exact x_areOne ok c hv z
  · have e1 : h 45 v = nI (lst (og m) v) := by rw [c.2.2.2.2.2.1 v (by omega), if_pos (bo_p hv)]
    have e2 : h 45 w = mm := by rw [c.2.2.2.2.2.1 w hw, bo_f z]; rfl
    have l1 := (lst_cn (o := og m) (v := v) (by omega)).2
    have nc : ¬ Cn (og m) v w := fun q => z (cn_lt ok q hv)
    rw [bo_f nc]
    refine Ev.eq ?_
    unfold f2_areOne
    refine Ev.grd (ni_in (by omega) (by omega)) (Ev.grd (ni_in (by omega) hw) (Ev.neg ?_ (Ev.some rfl)))
    rw [ni_cl (by omega), ni_cl (by omega), e1, e2]
    simp (disch := omega) only [up_s, up_k, up_j, mm_neg, mm_def, ni_lt, ni_le, ni_eq, ni_mm, mm_ni, ni_lt_mm, ni_le_mm, mm_lt_ni, mm_le_ni, mm_lt_mm, mm_le_mm, ni_cl, ni_in, nI_add, ni_mul, ni_div, ni_rem, ni_rem2, fr_sub, fr_mm, fr_ge0, fr_lt0, fr_inj, l32_0, l32_1, l32_2, l32_3, l32_4, l32_5, l32_6, l32_7, l32_8, l32_9, l32_10, l32_11, l32_12, l32_13, l32_14, l32_15, l32_16, l32_20, l32_24, l32_25, l32_26, l32_31, l32_32, l32_34, l32_35, l32_39, l32_40, l32_44, l32_45, l32_46, l32_47, l32_48, l32_49, l32_57, l32_58, l32_59, l32_63, l32_64, l32_85, l32_90, l32_97, l32_99, l32_100, l32_110, l32_112, l32_122, l32_124, l32_125, l32_255, l32_680, l32_699, l32_700, l32_999, l32_2500, l32_99999, l32_100000, l32_1000000, if_true, if_false, ite_true, ite_false, ce_nm, Option.bind, if_pos, if_neg]
    exact id
theorem q_rounds {F : Nat} (hF : 1000 ≤ F) (x : Int32) : Gd (f11_rounds F x) (f12_rounds F x) := by
  refine gd_ref hF (A := fun h => Option.bind (f3_roundsIn F 48 x h) (fun o23 => some (o23.1, o23.2))) (B := fun h => Option.bind (f12_rootOf F x h) (fun o20 => if ce_in o20.1 10 = true then some (o20.2 81 (o20.1).toNatClampNeg, o20.2) else none)) (fun h => rfl) (fun h => rfl) ?_
  rintro m kn v r hp on rfl ⟨hv, hr, hc, hR, T, hfi, tr⟩
  have h2 := on.1.2.1
  have g := on.1.2.2.2.1
  have hr10 := T.2.2.1
  have kb : ∀ w, Kf m (sM m) w ≤ 10 := fun w => by
    unfold Kf Kd
    by_cases z : mu (og m) (sM m) w = true
    · rw [if_pos z]
      exact (cw_bd _ _ _ 10 0 _).2
    · rw [if_neg z]; omega
  refine ⟨nI (Kf m (sM m) r), fun h c l => ?_, fun h c mf lb => ?_⟩
  · have cs := c.cs l
    unfold f3_roundsIn
    refine Ev.bind (P := fun o => o = (nI (Kf m (sM m) r), h)) (Ev.bind (P := fun o => o = (nI (Kf m (sM m) r), h)) ?_ (fun o ho => Ev.some (by rw [ho]))) (fun o ho => ?_)
    · have key : mx (fun w => if bo (Cn (og m) v w) = true then Kf m (sM m) w else 0) 10 = Kf m (sM m) r := by
        apply Nat.le_antisymm
        · refine mx_le (fun i hi => ?_)
          by_cases z : Cn (og m) v i
          · rw [bo_p z, if_pos rfl]
            rcases root_k on.fs hi hR (hc.trans z) with q | q
            · rw [q]; exact Nat.zero_le _
            · rw [q]; exact Nat.le_refl _
          · rw [bo_f z]; exact Nat.zero_le _
        · have := le_mx (f := fun w => if bo (Cn (og m) v w) = true then Kf m (sM m) w else 0) hr10
          rw [bo_p (hc.symm g), if_pos rfl] at this
          exact this
      rw [← key]
      refine Ev.it (I := fun i st => st = (nI (mx (fun w => if bo (Cn (og m) v w) = true then Kf m (sM m) w else 0) i), nI i, h)) _ 10 ?_ F 0 _ (by omega) (by omega) rfl
      rintro i st hi rfl
      show Ev (f3_roundsIn_b5 F 48 (nI v) (nI (mx (fun w => if bo (Cn (og m) v w) = true then Kf m (sM m) w else 0) i)) (nI i) h) _
      have nxt : nI i + 1 = nI (i + 1) := nI_1 _
      have ms := mx_s (fun w => if bo (Cn (og m) v w) = true then Kf m (sM m) w else 0) i
      have mb : mx (fun w => if bo (Cn (og m) v w) = true then Kf m (sM m) w else 0) i ≤ 10 := mx_le (fun j hj => by
        by_cases z : bo (Cn (og m) v j) = true
        · rw [if_pos z]; exact kb j
        · rw [if_neg z]; omega)
      unfold f3_roundsIn_b5
      by_cases hin : 10 ≤ i
      · refine Ev.pos (by simp (disch := omega) only [up_s, up_k, up_j, mm_neg, mm_def, ni_lt, ni_le, ni_eq, ni_mm, mm_ni, ni_lt_mm, ni_le_mm, mm_lt_ni, mm_le_ni, mm_lt_mm, mm_le_mm, ni_cl, ni_in, nI_add, ni_mul, ni_div, ni_rem, ni_rem2, fr_sub, fr_mm, fr_ge0, fr_lt0, fr_inj, l32_0, l32_1, l32_2, l32_3, l32_4, l32_5, l32_6, l32_7, l32_8, l32_9, l32_10, l32_11, l32_12, l32_13, l32_14, l32_15, l32_16, l32_20, l32_24, l32_25, l32_26, l32_31, l32_32, l32_34, l32_35, l32_39, l32_40, l32_44, l32_45, l32_46, l32_47, l32_48, l32_49, l32_57, l32_58, l32_59, l32_63, l32_64, l32_85, l32_90, l32_97, l32_99, l32_100, l32_110, l32_112, l32_122, l32_124, l32_125, l32_255, l32_680, l32_699, l32_700, l32_999, l32_2500, l32_99999, l32_100000, l32_1000000, if_true, if_false, ite_true, ite_false, ce_nm, Option.bind, if_pos, if_neg]; exact hin) (Ev.some ?_)
        have : i = 10 := by omega
        rw [this]
      · refine Ev.neg (by simp (disch := omega) only [up_s, up_k, up_j, mm_neg, mm_def, ni_lt, ni_le, ni_eq, ni_mm, mm_ni, ni_lt_mm, ni_le_mm, mm_lt_ni, mm_le_ni, mm_lt_mm, mm_le_mm, ni_cl, ni_in, nI_add, ni_mul, ni_div, ni_rem, ni_rem2, fr_sub, fr_mm, fr_ge0, fr_lt0, fr_inj, l32_0, l32_1, l32_2, l32_3, l32_4, l32_5, l32_6, l32_7, l32_8, l32_9, l32_10, l32_11, l32_12, l32_13, l32_14, l32_15, l32_16, l32_20, l32_24, l32_25, l32_26, l32_31, l32_32, l32_34, l32_35, l32_39, l32_40, l32_44, l32_45, l32_46, l32_47, l32_48, l32_49, l32_57, l32_58, l32_59, l32_63, l32_64, l32_85, l32_90, l32_97, l32_99, l32_100, l32_110, l32_112, l32_122, l32_124, l32_125, l32_255, l32_680, l32_699, l32_700, l32_999, l32_2500, l32_99999, l32_100000, l32_1000000, if_true, if_false, ite_true, ite_false, ce_nm, Option.bind, if_pos, if_neg]; exact hin) ?_
        rw [x_areOne' on.1 cs hv (by omega)]
        refine ev_bs ?_
        dsimp only
        by_cases z : Cn (og m) v i
        · rw [bo_p z, if_pos rfl] at ms
          refine Ev.neg (by rw [bo_p z]; decide) (Ev.grd (ni_in (by omega) (by omega)) (Ev.some ⟨by omega, ?_⟩))
          have := kb i
          have e51 : h (48 + 3) i = nI (Kf m (sM m) i) := (l.el (by omega)).2.2.1
          rw [ni_cl (by omega)]
          simp only [e51]
          rw [ni_max (by omega) (by omega), nxt, ms]
        · rw [bo_f z, if_neg (by simp)] at ms
          refine Ev.pos (by rw [bo_f z]; rfl) (Ev.some ⟨by omega, ?_⟩)
          rw [nxt, ms, Nat.max_zero]
    · rw [ho]
      exact Ev.some ⟨rfl, Sc.refl _⟩
  · refine Ev.bind (x_rootOf on.1 c.2.2.2.1 (fun v hv => (mf.el hv).2.1) on.rb hv hF) (fun o ho => ?_)
    rw [ho.1, hfi, fr_s]
    refine Ev.grd (ni_in (by omega) hr10) (Ev.some ⟨?_, ho.2.1.sc (by omega)⟩)
    rw [ni_cl (by omega), ho.2.1 81 (by omega)]
    exact (mf.el hr).2.2.1
