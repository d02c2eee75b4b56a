-- ports, packets, ways
noncomputable def isP (m : Nat → Nat) (x y : Int32) : Bool := bo (∃ v p, v < m 2 ∧ p < m (5 + v) ∧ x = nI v ∧ y = nI p)
theorem isP_t {m : Nat → Nat} {v p : Nat} (h1 : v < m 2) (h2 : p < m (5 + v)) : isP m (nI v) (nI p) = true := bo_p ⟨v, p, h1, h2, rfl, rfl⟩
theorem isP_n {m : Nat → Nat} {x y : Int32} (h : isN m x = false) : isP m x y = false := bo_f (fun ⟨v, p, a, b, c, d⟩ => by rw [c, isN_t a] at h; exact absurd h (by simp))
theorem isP_out {m : Nat → Nat} {v : Nat} {y : Int32} (ok : OkG m) (hv : v < m 2) (h : ∀ p, p < m (5 + v) → y ≠ nI p) : isP m (nI v) y = false := bo_f (fun ⟨u, p, a, b, c, d⟩ => by
  have h2 := ok.2.1
  rw [ni_eq (by omega) (by omega)] at c
  rw [← c] at b
  exact h p b d)
theorem x_hasPort {m : Nat → Nat} {kn F : Nat} {h : Hp} (x y : Int32) (ok : OkG m) (cn : CNw h kn m) : f5_hasPort F kn x y h = some (if isP m x y = true then nI 1 else nI 0, h) := by
  have h2 := ok.2.1
  refine Ev.eq ?_
  unfold f5_hasPort
  rw [x_hasNode x h2 cn.2.1]
  refine ev_bs ?_
  dsimp only
  by_cases nx : isN m x = false
  · refine Ev.pos (by rw [nx]; rfl) (Ev.some ?_)
    rw [isP_n nx]
    rfl
  · obtain ⟨v, hv, rfl⟩ := isN_ex nx
    have hp := ok.2.2.1 v hv
    refine Ev.neg (by rw [isN_t hv]; decide) ?_
    rcases i32_of y with hy | ⟨p, hp', rfl⟩
    · refine Ev.pos hy (Ev.some ?_)
      rw [isP_out ok hv (fun p hp' q => by rw [q, ni_lt (by omega) (by omega)] at hy; omega)]
      rfl
    · refine Ev.neg (by simp (disch := omega) only [up_s, up_k, up_j, mm_neg, mm_def, ni_lt, ni_le, ni_eq, ni_mm, mm_ni, ni_lt_mm, ni_le_mm, mm_lt_ni, mm_le_ni, mm_lt_mm, mm_le_mm, ni_cl, ni_in, nI_add, ni_mul, ni_div, ni_rem, ni_rem2, fr_sub, fr_mm, fr_ge0, fr_lt0, fr_inj, l32_0, l32_1, l32_2, l32_3, l32_4, l32_5, l32_6, l32_7, l32_8, l32_9, l32_10, l32_11, l32_12, l32_13, l32_14, l32_15, l32_16, l32_20, l32_24, l32_25, l32_26, l32_31, l32_32, l32_34, l32_35, l32_39, l32_40, l32_44, l32_45, l32_46, l32_47, l32_48, l32_49, l32_57, l32_58, l32_59, l32_63, l32_64, l32_85, l32_90, l32_97, l32_99, l32_100, l32_110, l32_112, l32_122, l32_124, l32_125, l32_255, l32_680, l32_699, l32_700, l32_999, l32_2500, l32_99999, l32_100000, l32_1000000, if_true, if_false, ite_true, ite_false, ce_nm, Option.bind, if_pos, if_neg]; omega) (Ev.grd (ni_in (by omega) (by omega)) ?_)
      rw [ni_cl (by omega)]
      by_cases z : m (5 + v) ≤ p
      · refine Ev.pos (by rw [cn.2.2.1 v hv, ni_le (by omega) (by omega)]; exact z) (Ev.some ?_)
        rw [isP_out ok hv (fun q hq e => by rw [ni_eq (by omega) (by omega)] at e; omega)]
        rfl
      · refine Ev.neg (by rw [cn.2.2.1 v hv, ni_le (by omega) (by omega)]; exact z) (Ev.some ?_)
        rw [isP_t hv (by omega)]
        rfl
theorem x_isPort {m : Nat → Nat} {F : Nat} {h : Hp} (x y : Int32) (ok : OkG m) (c : MN h m) : f12_isPort F x y h = some (if isP m x y = true then nI 1 else nI 0, h) := by
  have h2 := ok.2.1
  refine Ev.eq ?_
  unfold f12_isPort
  rw [x_isNode x h2 c]
  refine ev_bs ?_
  dsimp only
  by_cases nx : isN m x = false
  · refine Ev.pos (by rw [nx]; rfl) (Ev.some ?_)
    rw [isP_n nx]
    rfl
  · obtain ⟨v, hv, rfl⟩ := isN_ex nx
    have hp := ok.2.2.1 v hv
    have e5 : (5 : Int32) + nI v = nI (5 + v) := by rw [l32_5, nI_add]
    refine Ev.neg (by rw [isN_t hv]; decide) ?_
    rw [e5]
    refine Ev.grd (ni_in (by omega) (by omega)) ?_
    rw [ni_cl (by omega), c _ (by omega), l32_1, ni_sub1 (by omega), show (0 : Int64) = (nI 0).toInt64 from rfl, x_in]
    refine ev_bs ?_
    dsimp only
    rcases i32_of y with hy | ⟨p, hp', rfl⟩
    · have n0 : ¬ (nI 0 ≤ y ∧ y ≤ nI (m (5 + v) - 1)) := fun q => by
        have a := Int32.le_iff_toInt_le.mp q.1
        have b := Int32.lt_iff_toInt_lt.mp hy
        omega
      refine Ev.pos (by rw [if_neg n0]; rfl) (Ev.some ?_)
      rw [isP_out ok hv (fun p hp' q => by rw [q, ni_lt (by omega) (by omega)] at hy; omega)]
      rfl
    · by_cases z : m (5 + v) ≤ p
      · have n0 : ¬ (nI 0 ≤ nI p ∧ nI p ≤ nI (m (5 + v) - 1)) := fun q => by
          rw [ni_le (by omega) (by omega), ni_le (by omega) (by omega)] at q
          omega
        refine Ev.pos (by rw [if_neg n0]; rfl) (Ev.some ?_)
        rw [isP_out ok hv (fun q hq e => by rw [ni_eq (by omega) (by omega)] at e; omega)]
        rfl
      · have n0 : nI 0 ≤ nI p ∧ nI p ≤ nI (m (5 + v) - 1) := by
          rw [ni_le (by omega) (by omega), ni_le (by omega) (by omega)]
          omega
        refine Ev.neg (by rw [if_pos n0]; decide) (Ev.some ?_)
        rw [isP_t hv (by omega)]
        rfl
theorem isP_ex {m : Nat → Nat} {x y : Int32} (h : ¬ isP m x y = false) : ∃ v p, v < m 2 ∧ p < m (5 + v) ∧ x = nI v ∧ y = nI p := by
  cases q : isP m x y with
  | false => exact absurd q h
  | true => exact bo_t.mp q
theorem ro_le (o P : Nat → Nat) (e : Nat) : ro o P e ≤ 3 := by
  unfold ro
  by_cases a : o e = 0
  · rw [if_pos a]; omega
  · rw [if_neg a]
    by_cases b : P (e / 4) = e + 1
    · rw [if_pos b]; omega
    · rw [if_neg b]
      by_cases c : ch o P e = true
      · rw [if_pos c]; omega
      · rw [if_neg c]; omega
theorem c_two : ((2 : Int32)).toNatClampNeg = 2 := rfl
theorem q_port {F : Nat} (hF : 1000 ≤ F) (x y z : Int32) : Gd (f11_port F x y z) (f12_port F x y z) := by
  intro m kn
  by_cases on : OkN m
  rotate_left
  · exact ⟨0, fun h c => absurd c.2.2.1 on, fun h c => absurd c.2.2.1 on⟩
  have h2 := on.1.2.1
  have g := on.1.2.2.2.1
  have ca : ∀ h, Co h m kn → f11_port F x y z h = Option.bind (some (if isP m x y = true then nI 1 else nI 0, h)) (fun o6 => if o6.1 = 0 then some ((-2 : Int32), o6.2) else if z < 0 then some ((-2 : Int32), o6.2) else if z ≤ (3 : Int32) then Option.bind (f11_endOf F x y o6.2) (fun o26 => ce_nm ((o26.2 0 2).toNatClampNeg) (fun k_32 => if ce_isNet k_32 then if ce_in o26.1 40 = true then if z = 0 then ce_nm ((o26.2 0 2).toNatClampNeg) (fun k_52 => if ce_isNet k_52 then Option.bind (f3_roleOf F 48 k_52 o26.1 o26.2) (fun o57 => some (o57.1, o57.2)) else none) else if (o26.2 (k_32 + 5) (o26.1).toNatClampNeg) = (-1 : Int32) then some ((-1 : Int32), o26.2) else if z = (1 : Int32) then Option.bind (f11_nodeOf F (o26.2 (k_32 + 5) (o26.1).toNatClampNeg) o26.2) (fun o76 => some (o76.1, o76.2)) else if z = (2 : Int32) then Option.bind (f11_portOf F (o26.2 (k_32 + 5) (o26.1).toNatClampNeg) o26.2) (fun o87 => some (o87.1, o87.2)) else ce_nm ((o26.2 0 2).toNatClampNeg) (fun k_94 => if ce_isNet k_94 then if ce_in o26.1 40 = true then some (o26.2 (k_94 + 6) (o26.1).toNatClampNeg, o26.2) else none else none) else none else none)) else some ((-2 : Int32), o6.2)) := fun h c => by
    have b := net_le c.2.1
    unfold f11_port
    show (if ce_isNet (h 0 2).toNatClampNeg then _ else none) = _
    rw [c.1, ni_cl (by omega), if_pos c.2.1, x_hasPort x y on.1 c.2.2.2.2.1.1]
  by_cases np : isP m x y = false
  · refine ⟨-2, fun h c => ?_, fun h c => ?_⟩
    · rw [ca h c, np]
      exact ev_bs (Ev.pos rfl (Ev.some ⟨rfl, Sc.refl _⟩))
    · unfold f12_port
      rw [x_isPort x y on.1 c.2.2.2.1, np]
      exact ev_bs (Ev.pos rfl (Ev.some ⟨rfl, Sc.refl _⟩))
  · obtain ⟨v, p, hv, hp, rfl, rfl⟩ := isP_ex np
    have n1 : ¬ (nI 1 : Int32) = 0 := by decide
    have hpp := on.1.2.2.1 v hv
    have he : 4 * v + p < 40 := by omega
    have e4 : (4 : Int32) * nI v + nI p = nI (4 * v + p) := by rw [l32_4, ni_mul, nI_add]
    have ev : (4 * v + p) / 4 = v := by omega
    have hog := og_le g he
    by_cases zr : (0 : Int32) ≤ z ∧ z ≤ 3
    · obtain ⟨q, hq, rfl⟩ : ∃ q, q ≤ 3 ∧ z = nI q := by
        rcases i32_of z with hz | ⟨q, hq, rfl⟩
        · exfalso
          have a := Int32.le_iff_toInt_le.mp zr.1
          have b := Int32.lt_iff_toInt_lt.mp hz
          have : (nI 0).toInt = (0 : Int32).toInt := rfl
          omega
        · have := zr.2
          rw [l32_3, ni_le (by omega) (by omega)] at this
          exact ⟨q, this, rfl⟩
      have clA : ∀ h, Co h m kn → Ev (f11_port F (nI v) (nI p) (nI q) h) (fun o => o.1 = (if q = 0 then nI (ro (og m) (Pf m (sM m)) (4 * v + p)) else if og m (4 * v + p) = 0 then mm else if q = 1 then nI ((og m (4 * v + p) - 1) / 4) else if q = 2 then nI ((og m (4 * v + p) - 1) % 4) else nI (m (85 + (4 * v + p)))) ∧ Sc h o.2) := fun h c => by
        have b := net_le c.2.1
        have l := c.liv hv
        have cn := c.2.2.2.2.1.1
        have n4 := cn.2.2.2.1 (4 * v + p) he
        rw [ca h c, isP_t hv hp]
        refine ev_bs (Ev.neg n1 (Ev.neg (by simp (disch := omega) only [up_s, up_k, up_j, mm_neg, mm_def, ni_lt, ni_le, ni_eq, ni_mm, mm_ni, ni_lt_mm, ni_le_mm, mm_lt_ni, mm_le_ni, mm_lt_mm, mm_le_mm, ni_cl, ni_in, nI_add, ni_mul, ni_div, ni_rem, ni_rem2, fr_sub, fr_mm, fr_ge0, fr_lt0, fr_inj, l32_0, l32_1, l32_2, l32_3, l32_4, l32_5, l32_6, l32_7, l32_8, l32_9, l32_10, l32_11, l32_12, l32_13, l32_14, l32_15, l32_16, l32_20, l32_24, l32_25, l32_26, l32_31, l32_32, l32_34, l32_35, l32_39, l32_40, l32_44, l32_45, l32_46, l32_47, l32_48, l32_49, l32_57, l32_58, l32_59, l32_63, l32_64, l32_85, l32_90, l32_97, l32_99, l32_100, l32_110, l32_112, l32_122, l32_124, l32_125, l32_255, l32_680, l32_699, l32_700, l32_999, l32_2500, l32_99999, l32_100000, l32_1000000, if_true, if_false, ite_true, ite_false, ce_nm, Option.bind, if_pos, if_neg]; omega) (Ev.pos (by simp (disch := omega) only [up_s, up_k, up_j, mm_neg, mm_def, ni_lt, ni_le, ni_eq, ni_mm, mm_ni, ni_lt_mm, ni_le_mm, mm_lt_ni, mm_le_ni, mm_lt_mm, mm_le_mm, ni_cl, ni_in, nI_add, ni_mul, ni_div, ni_rem, ni_rem2, fr_sub, fr_mm, fr_ge0, fr_lt0, fr_inj, l32_0, l32_1, l32_2, l32_3, l32_4, l32_5, l32_6, l32_7, l32_8, l32_9, l32_10, l32_11, l32_12, l32_13, l32_14, l32_15, l32_16, l32_20, l32_24, l32_25, l32_26, l32_31, l32_32, l32_34, l32_35, l32_39, l32_40, l32_44, l32_45, l32_46, l32_47, l32_48, l32_49, l32_57, l32_58, l32_59, l32_63, l32_64, l32_85, l32_90, l32_97, l32_99, l32_100, l32_110, l32_112, l32_122, l32_124, l32_125, l32_255, l32_680, l32_699, l32_700, l32_999, l32_2500, l32_99999, l32_100000, l32_1000000, if_true, if_false, ite_true, ite_false, ce_nm, Option.bind, if_pos, if_neg]; omega) ?_)))
        rw [x_endOf]
        refine ev_bs (Ev.nm ?_)
        dsimp only
        rw [c.1, ni_cl (by omega)]
        refine Ev.grd c.2.1 (Ev.grd (ni_in (by omega) he) ?_)
        rw [ni_cl (by omega)]
        by_cases q0 : q = 0
        · refine Ev.pos (by rw [q0]; rfl) (Ev.nm (Ev.grd c.2.1 ?_))
          rw [x_roleOf on.1 cn on.fs.po (fun v hv => (l.el hv).2.2.2) he]
          refine ev_bs (Ev.some ⟨?_, Sc.refl _⟩)
          rw [if_pos q0]
        · refine Ev.neg (by simp (disch := omega) only [up_s, up_k, up_j, mm_neg, mm_def, ni_lt, ni_le, ni_eq, ni_mm, mm_ni, ni_lt_mm, ni_le_mm, mm_lt_ni, mm_le_ni, mm_lt_mm, mm_le_mm, ni_cl, ni_in, nI_add, ni_mul, ni_div, ni_rem, ni_rem2, fr_sub, fr_mm, fr_ge0, fr_lt0, fr_inj, l32_0, l32_1, l32_2, l32_3, l32_4, l32_5, l32_6, l32_7, l32_8, l32_9, l32_10, l32_11, l32_12, l32_13, l32_14, l32_15, l32_16, l32_20, l32_24, l32_25, l32_26, l32_31, l32_32, l32_34, l32_35, l32_39, l32_40, l32_44, l32_45, l32_46, l32_47, l32_48, l32_49, l32_57, l32_58, l32_59, l32_63, l32_64, l32_85, l32_90, l32_97, l32_99, l32_100, l32_110, l32_112, l32_122, l32_124, l32_125, l32_255, l32_680, l32_699, l32_700, l32_999, l32_2500, l32_99999, l32_100000, l32_1000000, if_true, if_false, ite_true, ite_false, ce_nm, Option.bind, if_pos, if_neg]; exact q0) ?_
          rw [if_neg q0]
          by_cases z0 : og m (4 * v + p) = 0
          · refine Ev.pos (by rw [n4, z0]; rfl) (Ev.some ⟨?_, Sc.refl _⟩)
            rw [if_pos z0]
            rfl
          · rw [if_neg z0]
            refine Ev.neg (by simp (disch := omega) only [up_s, up_k, up_j, mm_neg, mm_def, ni_lt, ni_le, ni_eq, ni_mm, mm_ni, ni_lt_mm, ni_le_mm, mm_lt_ni, mm_le_ni, mm_lt_mm, mm_le_mm, ni_cl, ni_in, nI_add, ni_mul, ni_div, ni_rem, ni_rem2, fr_sub, fr_mm, fr_ge0, fr_lt0, fr_inj, l32_0, l32_1, l32_2, l32_3, l32_4, l32_5, l32_6, l32_7, l32_8, l32_9, l32_10, l32_11, l32_12, l32_13, l32_14, l32_15, l32_16, l32_20, l32_24, l32_25, l32_26, l32_31, l32_32, l32_34, l32_35, l32_39, l32_40, l32_44, l32_45, l32_46, l32_47, l32_48, l32_49, l32_57, l32_58, l32_59, l32_63, l32_64, l32_85, l32_90, l32_97, l32_99, l32_100, l32_110, l32_112, l32_122, l32_124, l32_125, l32_255, l32_680, l32_699, l32_700, l32_999, l32_2500, l32_99999, l32_100000, l32_1000000, if_true, if_false, ite_true, ite_false, ce_nm, Option.bind, if_pos, if_neg, n4]; exact z0) ?_
            by_cases q1 : q = 1
            · refine Ev.pos (by rw [q1]; rfl) ?_
              rw [n4, fr_p (by omega), x_nodeOf _ _ _ (by omega), if_pos q1]
              exact ev_bs (Ev.some ⟨rfl, Sc.refl _⟩)
            · refine Ev.neg (by simp (disch := omega) only [up_s, up_k, up_j, mm_neg, mm_def, ni_lt, ni_le, ni_eq, ni_mm, mm_ni, ni_lt_mm, ni_le_mm, mm_lt_ni, mm_le_ni, mm_lt_mm, mm_le_mm, ni_cl, ni_in, nI_add, ni_mul, ni_div, ni_rem, ni_rem2, fr_sub, fr_mm, fr_ge0, fr_lt0, fr_inj, l32_0, l32_1, l32_2, l32_3, l32_4, l32_5, l32_6, l32_7, l32_8, l32_9, l32_10, l32_11, l32_12, l32_13, l32_14, l32_15, l32_16, l32_20, l32_24, l32_25, l32_26, l32_31, l32_32, l32_34, l32_35, l32_39, l32_40, l32_44, l32_45, l32_46, l32_47, l32_48, l32_49, l32_57, l32_58, l32_59, l32_63, l32_64, l32_85, l32_90, l32_97, l32_99, l32_100, l32_110, l32_112, l32_122, l32_124, l32_125, l32_255, l32_680, l32_699, l32_700, l32_999, l32_2500, l32_99999, l32_100000, l32_1000000, if_true, if_false, ite_true, ite_false, ce_nm, Option.bind, if_pos, if_neg]; exact q1) ?_
              rw [if_neg q1]
              by_cases q2 : q = 2
              · refine Ev.pos (by rw [q2]; rfl) ?_
                rw [n4, fr_p (by omega), x_portOf _ _ _ (by omega), if_pos q2]
                exact ev_bs (Ev.some ⟨rfl, Sc.refl _⟩)
              · refine Ev.neg (by simp (disch := omega) only [up_s, up_k, up_j, mm_neg, mm_def, ni_lt, ni_le, ni_eq, ni_mm, mm_ni, ni_lt_mm, ni_le_mm, mm_lt_ni, mm_le_ni, mm_lt_mm, mm_le_mm, ni_cl, ni_in, nI_add, ni_mul, ni_div, ni_rem, ni_rem2, fr_sub, fr_mm, fr_ge0, fr_lt0, fr_inj, l32_0, l32_1, l32_2, l32_3, l32_4, l32_5, l32_6, l32_7, l32_8, l32_9, l32_10, l32_11, l32_12, l32_13, l32_14, l32_15, l32_16, l32_20, l32_24, l32_25, l32_26, l32_31, l32_32, l32_34, l32_35, l32_39, l32_40, l32_44, l32_45, l32_46, l32_47, l32_48, l32_49, l32_57, l32_58, l32_59, l32_63, l32_64, l32_85, l32_90, l32_97, l32_99, l32_100, l32_110, l32_112, l32_122, l32_124, l32_125, l32_255, l32_680, l32_699, l32_700, l32_999, l32_2500, l32_99999, l32_100000, l32_1000000, if_true, if_false, ite_true, ite_false, ce_nm, Option.bind, if_pos, if_neg]; exact q2) (Ev.nm (Ev.grd c.2.1 (Ev.grd (ni_in (by omega) he) (Ev.some ⟨?_, Sc.refl _⟩))))
                rw [if_neg q2]
                exact cn.2.2.2.2 _ he z0
      refine ⟨_, clA, fun h c => ?_⟩
      have cm := c.2.2.2.1
      unfold f12_port
      rw [x_isPort _ _ on.1 c.2.2.2.1, isP_t hv hp]
      refine ev_bs (Ev.neg n1 ?_)
      dsimp only
      rw [show (0 : Int64) = (0 : Int32).toInt64 from rfl, show (3 : Int64) = (3 : Int32).toInt64 from rfl, x_in, e4]
      rw [if_pos zr]
      refine ev_bs (Ev.neg n1 ?_)
      dsimp only
      rw [x_otherOf cm he]
      refine ev_bs ?_
      dsimp only
      by_cases z0 : og m (4 * v + p) = 0
      · rw [z0, fr_0]
        refine Ev.neg (by decide) ?_
        by_cases q0 : q = 0
        · refine Ev.pos (by rw [q0]; rfl) (Ev.some ⟨?_, Sc.refl _⟩)
          rw [if_pos q0]
          unfold ro
          rw [if_pos z0]
          rfl
        · refine Ev.neg (by simp (disch := omega) only [up_s, up_k, up_j, mm_neg, mm_def, ni_lt, ni_le, ni_eq, ni_mm, mm_ni, ni_lt_mm, ni_le_mm, mm_lt_ni, mm_le_ni, mm_lt_mm, mm_le_mm, ni_cl, ni_in, nI_add, ni_mul, ni_div, ni_rem, ni_rem2, fr_sub, fr_mm, fr_ge0, fr_lt0, fr_inj, l32_0, l32_1, l32_2, l32_3, l32_4, l32_5, l32_6, l32_7, l32_8, l32_9, l32_10, l32_11, l32_12, l32_13, l32_14, l32_15, l32_16, l32_20, l32_24, l32_25, l32_26, l32_31, l32_32, l32_34, l32_35, l32_39, l32_40, l32_44, l32_45, l32_46, l32_47, l32_48, l32_49, l32_57, l32_58, l32_59, l32_63, l32_64, l32_85, l32_90, l32_97, l32_99, l32_100, l32_110, l32_112, l32_122, l32_124, l32_125, l32_255, l32_680, l32_699, l32_700, l32_999, l32_2500, l32_99999, l32_100000, l32_1000000, if_true, if_false, ite_true, ite_false, ce_nm, Option.bind, if_pos, if_neg]; exact q0) (Ev.some ⟨?_, Sc.refl _⟩)
          rw [if_neg q0, if_pos rfl]
          rfl
      · rw [fr_p (by omega)]
        refine Ev.pos (by simp (disch := omega) only [up_s, up_k, up_j, mm_neg, mm_def, ni_lt, ni_le, ni_eq, ni_mm, mm_ni, ni_lt_mm, ni_le_mm, mm_lt_ni, mm_le_ni, mm_lt_mm, mm_le_mm, ni_cl, ni_in, nI_add, ni_mul, ni_div, ni_rem, ni_rem2, fr_sub, fr_mm, fr_ge0, fr_lt0, fr_inj, l32_0, l32_1, l32_2, l32_3, l32_4, l32_5, l32_6, l32_7, l32_8, l32_9, l32_10, l32_11, l32_12, l32_13, l32_14, l32_15, l32_16, l32_20, l32_24, l32_25, l32_26, l32_31, l32_32, l32_34, l32_35, l32_39, l32_40, l32_44, l32_45, l32_46, l32_47, l32_48, l32_49, l32_57, l32_58, l32_59, l32_63, l32_64, l32_85, l32_90, l32_97, l32_99, l32_100, l32_110, l32_112, l32_122, l32_124, l32_125, l32_255, l32_680, l32_699, l32_700, l32_999, l32_2500, l32_99999, l32_100000, l32_1000000, if_true, if_false, ite_true, ite_false, ce_nm, Option.bind, if_pos, if_neg]; omega) (Ev.bind (x_runs on.1 on.2.1 on.2.2.1 on.2.2.2.1 cm hF) (fun h1 hh => ?_))
        obtain ⟨f1, mf⟩ := hh
        have cm1 := cm.fr f1 (by omega)
        have s1 := f1.sc (by omega)
        by_cases q0 : q = 0
        · refine Ev.pos (by rw [q0]; rfl) (Ev.grd (ni_in (by omega) (by omega)) ?_)
          rw [ni_cl (by omega), if_pos q0]
          have e82 : h1 82 v = fr (Pf m (sM m) v) := (mf v hv).2.2.2
          have pl := on.fs.po.le (v := v) (by omega)
          unfold ro
          rw [if_neg z0, ev]
          by_cases w : Pf m (sM m) v = 4 * v + p + 1
          · refine Ev.pos (by rw [e82, w, fr_s]) (Ev.some ⟨?_, s1⟩)
            rw [if_pos w]
            rfl
          · refine Ev.neg (by rw [e82, ← fr_s (4 * v + p), fr_inj (by omega) (by omega)]; exact w) ?_
            rw [if_neg w, x_isChild on.1 cm1 on.fs.po (fun v hv => (mf v hv).2.2.2) he]
            refine ev_bs ?_
            dsimp only
            by_cases u : ch (og m) (Pf m (sM m)) (4 * v + p) = true
            · refine Ev.neg (by rw [if_pos u]; decide) (Ev.some ⟨?_, s1⟩)
              rw [if_pos u]
              rfl
            · refine Ev.pos (by rw [if_neg u]; rfl) (Ev.some ⟨?_, s1⟩)
              rw [if_neg u]
              rfl
        · refine Ev.neg (by simp (disch := omega) only [up_s, up_k, up_j, mm_neg, mm_def, ni_lt, ni_le, ni_eq, ni_mm, mm_ni, ni_lt_mm, ni_le_mm, mm_lt_ni, mm_le_ni, mm_lt_mm, mm_le_mm, ni_cl, ni_in, nI_add, ni_mul, ni_div, ni_rem, ni_rem2, fr_sub, fr_mm, fr_ge0, fr_lt0, fr_inj, l32_0, l32_1, l32_2, l32_3, l32_4, l32_5, l32_6, l32_7, l32_8, l32_9, l32_10, l32_11, l32_12, l32_13, l32_14, l32_15, l32_16, l32_20, l32_24, l32_25, l32_26, l32_31, l32_32, l32_34, l32_35, l32_39, l32_40, l32_44, l32_45, l32_46, l32_47, l32_48, l32_49, l32_57, l32_58, l32_59, l32_63, l32_64, l32_85, l32_90, l32_97, l32_99, l32_100, l32_110, l32_112, l32_122, l32_124, l32_125, l32_255, l32_680, l32_699, l32_700, l32_999, l32_2500, l32_99999, l32_100000, l32_1000000, if_true, if_false, ite_true, ite_false, ce_nm, Option.bind, if_pos, if_neg]; exact q0) ?_
          rw [if_neg q0, if_neg z0]
          by_cases q1 : q = 1
          · refine Ev.pos (by rw [q1]; rfl) ?_
            rw [x_otherN cm1 he z0, if_pos q1]
            refine ev_bs (Ev.some ⟨?_, s1⟩)
            dsimp only
            rw [l32_4, ni_div (by omega) (by omega) (by omega)]
          · refine Ev.neg (by simp (disch := omega) only [up_s, up_k, up_j, mm_neg, mm_def, ni_lt, ni_le, ni_eq, ni_mm, mm_ni, ni_lt_mm, ni_le_mm, mm_lt_ni, mm_le_ni, mm_lt_mm, mm_le_mm, ni_cl, ni_in, nI_add, ni_mul, ni_div, ni_rem, ni_rem2, fr_sub, fr_mm, fr_ge0, fr_lt0, fr_inj, l32_0, l32_1, l32_2, l32_3, l32_4, l32_5, l32_6, l32_7, l32_8, l32_9, l32_10, l32_11, l32_12, l32_13, l32_14, l32_15, l32_16, l32_20, l32_24, l32_25, l32_26, l32_31, l32_32, l32_34, l32_35, l32_39, l32_40, l32_44, l32_45, l32_46, l32_47, l32_48, l32_49, l32_57, l32_58, l32_59, l32_63, l32_64, l32_85, l32_90, l32_97, l32_99, l32_100, l32_110, l32_112, l32_122, l32_124, l32_125, l32_255, l32_680, l32_699, l32_700, l32_999, l32_2500, l32_99999, l32_100000, l32_1000000, if_true, if_false, ite_true, ite_false, ce_nm, Option.bind, if_pos, if_neg]; exact q1) ?_
            rw [if_neg q1]
            by_cases q2 : q = 2
            · refine Ev.pos (by rw [q2]; rfl) ?_
              rw [x_otherN cm1 he z0, if_pos q2]
              refine ev_bs (Ev.some ⟨?_, s1⟩)
              dsimp only
              rw [l32_4, ni_div (by omega) (by omega) (by omega), ni_rem (by omega) (by omega) (by omega)]
            · have e85 : (85 : Int32) + nI (4 * v + p) = nI (85 + (4 * v + p)) := by rw [l32_85, nI_add]
              refine Ev.neg (by simp (disch := omega) only [up_s, up_k, up_j, mm_neg, mm_def, ni_lt, ni_le, ni_eq, ni_mm, mm_ni, ni_lt_mm, ni_le_mm, mm_lt_ni, mm_le_ni, mm_lt_mm, mm_le_mm, ni_cl, ni_in, nI_add, ni_mul, ni_div, ni_rem, ni_rem2, fr_sub, fr_mm, fr_ge0, fr_lt0, fr_inj, l32_0, l32_1, l32_2, l32_3, l32_4, l32_5, l32_6, l32_7, l32_8, l32_9, l32_10, l32_11, l32_12, l32_13, l32_14, l32_15, l32_16, l32_20, l32_24, l32_25, l32_26, l32_31, l32_32, l32_34, l32_35, l32_39, l32_40, l32_44, l32_45, l32_46, l32_47, l32_48, l32_49, l32_57, l32_58, l32_59, l32_63, l32_64, l32_85, l32_90, l32_97, l32_99, l32_100, l32_110, l32_112, l32_122, l32_124, l32_125, l32_255, l32_680, l32_699, l32_700, l32_999, l32_2500, l32_99999, l32_100000, l32_1000000, if_true, if_false, ite_true, ite_false, ce_nm, Option.bind, if_pos, if_neg]; exact q2) ?_
              rw [e85, if_neg q2]
              refine Ev.grd (ni_in (by omega) (by omega)) (Ev.some ⟨?_, s1⟩)
              rw [ni_cl (by omega)]
              exact cm1 _ (by omega)
    · refine ⟨-2, fun h c => ?_, fun h c => ?_⟩
      · rw [ca h c, isP_t hv hp]
        refine ev_bs (Ev.neg n1 ?_)
        by_cases zl : z < 0
        · exact Ev.pos zl (Ev.some ⟨rfl, Sc.refl _⟩)
        · refine Ev.neg zl (Ev.neg (fun q => zr ⟨?_, q⟩) (Ev.some ⟨rfl, Sc.refl _⟩))
          apply Int32.le_iff_toInt_le.mpr
          have : ¬ z.toInt < (0 : Int32).toInt := fun w => zl (Int32.lt_iff_toInt_lt.mpr w)
          omega
      · unfold f12_port
        rw [x_isPort _ _ on.1 c.2.2.2.1, isP_t hv hp]
        refine ev_bs (Ev.neg n1 ?_)
        dsimp only
        rw [show (0 : Int64) = (0 : Int32).toInt64 from rfl, show (3 : Int64) = (3 : Int32).toInt64 from rfl, x_in, e4]
        rw [if_neg zr]
        exact ev_bs (Ev.pos rfl (Ev.some ⟨rfl, Sc.refl _⟩))
