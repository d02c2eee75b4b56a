-- plug, pull, force
theorem x_keep {n F : Nat} {h : Hp} (h35 : h 35 0 = nI n) (hn : n < 20) (k e f w : Int32) : Ev (f0_keep F k e f w h) (fun h' => (∀ c, c < 35 ∨ 39 < c → h' c = h c) ∧ h' 35 0 = nI (n + 1) ∧ h' 36 n = k ∧ h' 37 n = e ∧ h' 38 n = f ∧ h' 39 n = w ∧ ∀ i, i ≠ n → h' 36 i = h 36 i ∧ h' 37 i = h 37 i ∧ h' 38 i = h 38 i ∧ h' 39 i = h 39 i) := by
  have full : f0_areFull F h = some (nI 0, h) := by
    refine Ev.eq ?_
    unfold f0_areFull
    exact Ev.pos (by rw [h35]; simp (disch := omega) only [up_s, up_k, up_j, mm_neg, mm_def, ni_lt, ni_le, ni_eq, ni_mm, mm_ni, ni_lt_mm, ni_le_mm, mm_lt_ni, mm_le_ni, mm_lt_mm, mm_le_mm, ni_cl, ni_in, nI_add, ni_mul, ni_div, ni_rem, ni_rem2, fr_sub, fr_mm, fr_ge0, fr_lt0, fr_inj, l32_0, l32_1, l32_2, l32_3, l32_4, l32_5, l32_6, l32_7, l32_8, l32_9, l32_10, l32_11, l32_12, l32_13, l32_14, l32_15, l32_16, l32_20, l32_24, l32_25, l32_26, l32_31, l32_32, l32_34, l32_35, l32_39, l32_40, l32_44, l32_45, l32_46, l32_47, l32_48, l32_49, l32_57, l32_58, l32_59, l32_63, l32_64, l32_85, l32_90, l32_97, l32_99, l32_100, l32_110, l32_112, l32_122, l32_124, l32_125, l32_255, l32_680, l32_699, l32_700, l32_999, l32_2500, l32_99999, l32_100000, l32_1000000, if_true, if_false, ite_true, ite_false, ce_nm, Option.bind, if_pos, if_neg]; exact hn) (Ev.some rfl)
  unfold f0_keep
  rw [full]
  refine ev_bs (Ev.pos rfl ?_)
  dsimp only
  have s0 : (h 35 0).toNatClampNeg = n := by rw [h35, ni_cl (by omega)]
  refine Ev.grd (by rw [h35]; exact ni_in (by omega) hn) (Ev.nm ?_)
  rw [s0]
  have t1 : (hp_up h 36 n k) 35 0 = nI n := by rw [up_k _ _ _ _ _ _ (by omega)]; exact h35
  refine Ev.grd (by rw [t1]; exact ni_in (by omega) hn) (Ev.nm ?_)
  rw [t1, ni_cl (by omega)]
  have t2 : (hp_up (hp_up h 36 n k) 37 n e) 35 0 = nI n := by rw [up_k _ _ _ _ _ _ (by omega)]; exact t1
  refine Ev.grd (by rw [t2]; exact ni_in (by omega) hn) (Ev.nm ?_)
  rw [t2, ni_cl (by omega)]
  have t3 : (hp_up (hp_up (hp_up h 36 n k) 37 n e) 38 n f) 35 0 = nI n := by rw [up_k _ _ _ _ _ _ (by omega)]; exact t2
  refine Ev.grd (by rw [t3]; exact ni_in (by omega) hn) (Ev.nm ?_)
  rw [t3, ni_cl (by omega)]
  have t4 : (hp_up (hp_up (hp_up (hp_up h 36 n k) 37 n e) 38 n f) 39 n w) 35 0 = nI n := by rw [up_k _ _ _ _ _ _ (by omega)]; exact t3
  refine Ev.nm ?_
  rw [t4]
  refine Ev.some ⟨fun c hc => ?_, ?_, ?_, ?_, ?_, ?_, fun i hi => ⟨?_, ?_, ?_, ?_⟩⟩
  · rw [up_kk _ _ _ _ _ (by omega), up_kk _ _ _ _ _ (by omega), up_kk _ _ _ _ _ (by omega), up_kk _ _ _ _ _ (by omega), up_kk _ _ _ _ _ (by omega)]
  · rw [up_s]; exact nI_1 _
  · rw [up_k _ _ _ _ _ _ (by omega), up_k _ _ _ _ _ _ (by omega), up_k _ _ _ _ _ _ (by omega), up_k _ _ _ _ _ _ (by omega), up_s]
  · rw [up_k _ _ _ _ _ _ (by omega), up_k _ _ _ _ _ _ (by omega), up_k _ _ _ _ _ _ (by omega), up_s]
  · rw [up_k _ _ _ _ _ _ (by omega), up_k _ _ _ _ _ _ (by omega), up_s]
  · rw [up_k _ _ _ _ _ _ (by omega), up_s]
  · rw [up_k _ _ _ _ _ _ (by omega), up_k _ _ _ _ _ _ (by omega), up_k _ _ _ _ _ _ (by omega), up_k _ _ _ _ _ _ (by omega), up_j _ _ _ _ _ hi]
  · rw [up_k _ _ _ _ _ _ (by omega), up_k _ _ _ _ _ _ (by omega), up_k _ _ _ _ _ _ (by omega), up_j _ _ _ _ _ hi, up_k _ _ _ _ _ _ (by omega)]
  · rw [up_k _ _ _ _ _ _ (by omega), up_k _ _ _ _ _ _ (by omega), up_j _ _ _ _ _ hi, up_k _ _ _ _ _ _ (by omega), up_k _ _ _ _ _ _ (by omega)]
  · rw [up_k _ _ _ _ _ _ (by omega), up_j _ _ _ _ _ hi, up_k _ _ _ _ _ _ (by omega), up_k _ _ _ _ _ _ (by omega), up_k _ _ _ _ _ _ (by omega)]
theorem x_keeps {m : Nat → Nat} {n F : Nat} {h : Hp} (c : MN h m) (h4 : m 4 = n) (hn : n < 20) (hF : 1000 ≤ F) : Ev (f12_keeps F h) (fun h' => (∀ q, q ≠ 69 → q ≠ 71 → h' q = h q) ∧ MN h' (un m 4 (n + 1)) ∧ (∀ j, j < 125 → h' 71 (125 * n + j) = nI (m j)) ∧ ∀ j, j < 125 * n → h' 71 j = h 71 j) := by
  unfold f12_keeps
  refine Ev.bind (P := fun h1 => (∀ q, q ≠ 71 → h1 q = h q) ∧ (∀ j, j < 125 → h1 71 (125 * n + j) = nI (m j)) ∧ ∀ j, j < 125 * n → h1 71 j = h 71 j) ?_ (fun h1 hh => ?_)
  · refine Ev.it (I := fun i st => st.1 = nI i ∧ (∀ q, q ≠ 71 → st.2 q = h q) ∧ (∀ j, j < i → st.2 71 (125 * n + j) = nI (m j)) ∧ ∀ j, j < 125 * n → st.2 71 j = h 71 j) _ 125 ?_ F 0 _ (by omega) (by omega) ⟨rfl, fun _ _ => rfl, fun j hj => absurd hj (by omega), fun _ _ => rfl⟩
    rintro i ⟨x, h1⟩ hi hI
    obtain ⟨rfl, f1, b1, d1⟩ : x = nI i ∧ (∀ q, q ≠ 71 → h1 q = h q) ∧ (∀ j, j < i → h1 71 (125 * n + j) = nI (m j)) ∧ ∀ j, j < 125 * n → h1 71 j = h 71 j := hI
    show Ev (f12_keeps_b2 F (nI i) h1) _
    have e4 : h1 69 ((4 : Int32)).toNatClampNeg = nI n := by rw [f1 69 (by omega), ← h4]; exact c 4 (by omega)
    unfold f12_keeps_b2
    by_cases hin : 125 ≤ i
    · exact Ev.pos (by simp (disch := omega) only [up_s, up_k, up_j, mm_neg, mm_def, ni_lt, ni_le, ni_eq, ni_mm, mm_ni, ni_lt_mm, ni_le_mm, mm_lt_ni, mm_le_ni, mm_lt_mm, mm_le_mm, ni_cl, ni_in, nI_add, ni_mul, ni_div, ni_rem, ni_rem2, fr_sub, fr_mm, fr_ge0, fr_lt0, fr_inj, l32_0, l32_1, l32_2, l32_3, l32_4, l32_5, l32_6, l32_7, l32_8, l32_9, l32_10, l32_11, l32_12, l32_13, l32_14, l32_15, l32_16, l32_20, l32_24, l32_25, l32_26, l32_31, l32_32, l32_34, l32_35, l32_39, l32_40, l32_44, l32_45, l32_46, l32_47, l32_48, l32_49, l32_57, l32_58, l32_59, l32_63, l32_64, l32_85, l32_90, l32_97, l32_99, l32_100, l32_110, l32_112, l32_122, l32_124, l32_125, l32_255, l32_680, l32_699, l32_700, l32_999, l32_2500, l32_99999, l32_100000, l32_1000000, if_true, if_false, ite_true, ite_false, ce_nm, Option.bind, if_pos, if_neg]; exact hin) (Ev.some ⟨f1, fun j hj => b1 j (by omega), d1⟩)
    · have e1 : (125 : Int32) * nI n + nI i = nI (125 * n + i) := by rw [l32_125, ni_mul, nI_add]
      refine Ev.neg (by simp (disch := omega) only [up_s, up_k, up_j, mm_neg, mm_def, ni_lt, ni_le, ni_eq, ni_mm, mm_ni, ni_lt_mm, ni_le_mm, mm_lt_ni, mm_le_ni, mm_lt_mm, mm_le_mm, ni_cl, ni_in, nI_add, ni_mul, ni_div, ni_rem, ni_rem2, fr_sub, fr_mm, fr_ge0, fr_lt0, fr_inj, l32_0, l32_1, l32_2, l32_3, l32_4, l32_5, l32_6, l32_7, l32_8, l32_9, l32_10, l32_11, l32_12, l32_13, l32_14, l32_15, l32_16, l32_20, l32_24, l32_25, l32_26, l32_31, l32_32, l32_34, l32_35, l32_39, l32_40, l32_44, l32_45, l32_46, l32_47, l32_48, l32_49, l32_57, l32_58, l32_59, l32_63, l32_64, l32_85, l32_90, l32_97, l32_99, l32_100, l32_110, l32_112, l32_122, l32_124, l32_125, l32_255, l32_680, l32_699, l32_700, l32_999, l32_2500, l32_99999, l32_100000, l32_1000000, if_true, if_false, ite_true, ite_false, ce_nm, Option.bind, if_pos, if_neg]; exact hin) (Ev.grd (ni_in (by omega) (by omega)) ?_)
      rw [e4, e1]
      refine Ev.grd (ni_in (by omega) (by omega)) (Ev.nm (Ev.some ⟨by omega, nI_1 i, fun q hq => ?_, fun j hj => ?_, fun j hj => ?_⟩))
      · dsimp only; rw [up_kk _ _ _ _ _ hq]; exact f1 q hq
      · dsimp only
        rw [ni_cl (by omega), ni_cl (by omega)]
        by_cases z : j = i
        · rw [z, up_s, f1 69 (by omega)]; exact c i (by omega)
        · rw [up_j _ _ _ _ _ (by omega)]; exact b1 j (by omega)
      · dsimp only
        rw [ni_cl (by omega : 125 * n + i < 2147483648), up_j _ _ _ _ _ (by omega)]; exact d1 j hj
  · obtain ⟨f1, b1, d1⟩ := hh
    have e4 : h1 69 ((4 : Int32)).toNatClampNeg = nI n := by rw [f1 69 (by omega), ← h4]; exact c 4 (by omega)
    refine Ev.nm ?_
    rw [e4]
    refine Ev.some ⟨fun q q1 q2 => ?_, fun j hj => ?_, fun j hj => ?_, fun j hj => ?_⟩
    · rw [up_kk _ _ _ _ _ q1]; exact f1 q q2
    · have t4 : ((4 : Int32)).toNatClampNeg = 4 := rfl
      rw [t4]
      by_cases z : j = 4
      · rw [z, up_s, un_s]; exact nI_1 _
      · rw [up_j _ _ _ _ _ z, un_n z, f1 69 (by omega)]; exact c j hj
    · rw [up_k _ _ _ _ _ _ (by omega)]; exact b1 j hj
    · rw [up_k _ _ _ _ _ _ (by omega)]; exact d1 j hj
/-- after an act -/
theorem RA_act {m m' : Nat → Nat} {kn n : Nat} {ms : Nat → Nat → Nat} {h h' : Hp} (ra : RA h m kn ms) (h4 : m 4 = n) (m4' : m' 4 = n + 1) (m3' : m' 3 = m 3) (co' : Co h' m' kn) (h35 : h' 35 0 = nI (n + 1)) (ar : ActR h' n m m') (rows : ∀ i, i ≠ n → h' 36 i = h 36 i ∧ h' 37 i = h 37 i ∧ h' 38 i = h 38 i ∧ h' 39 i = h 39 i) (p1 : ∀ j, j < 125 → h' 71 (125 * n + j) = nI (m j)) (p2 : ∀ j, j < 125 * n → h' 71 j = h 71 j) : RA h' m' kn (fun i => if i ≤ n then ms i else m') := by
  obtain ⟨co, ch', ps⟩ := ra
  have mn : ms n = m := by rw [← h4]; exact ch'.2.1
  refine ⟨co', ⟨by rw [m4']; exact h35, ?_, fun i hi => ?_⟩, fun i hi j hj => ?_⟩
  · dsimp only
    rw [m4', if_neg (by omega)]
  · rw [m4'] at hi
    dsimp only
    rw [if_pos (by omega)]
    by_cases z : i = n
    · rw [z, mn, if_neg (by omega)]
      exact ⟨co.2.2.1, h4, m3'.symm, ar⟩
    · obtain ⟨t1, t2, t3, t4⟩ := ch'.2.2 i (by omega)
      rw [if_pos (by omega)]
      refine ⟨t1, t2, by rw [t3, m3'], ?_⟩
      obtain ⟨r1, r2, r3, r4⟩ := rows i z
      unfold ActR at t4 ⊢
      rw [r1, r2, r3, r4]
      exact t4
  · rw [m4'] at hi
    dsimp only
    rw [if_pos (by omega)]
    by_cases z : i = n
    · rw [z, mn]; exact p1 j hj
    · rw [p2 _ (by omega)]; exact ps i (by omega) j hj
theorem og_un4 (m : Nat → Nat) (x : Nat) : og (un m 4 x) = og m := funext (fun e => un_n (by omega))
theorem okn4 {m : Nat → Nat} {x : Nat} (on : OkN m) (hx : x ≤ 20) (h3 : m 3 ≠ 0) : OkN (un m 4 x) := by
  obtain ⟨⟨a1, a2, a3, a4, a5⟩, b, c, d, e, f, g⟩ := on
  have k : ∀ j, j ≠ 4 → un m 4 x j = m j := fun j hj => un_n hj
  refine ⟨⟨by rw [k 1 (by omega)]; exact a1, by rw [k 2 (by omega)]; exact a2, fun v hv => ?_, by rw [og_un4]; exact a4, fun e he h0 => ?_⟩, fun v hv => ?_, by rw [k 0 (by omega)]; exact c, fun v hv => ?_, by rw [k 3 (by omega)]; exact e, by rw [un_s]; exact hx, fun z => ?_⟩
  · rw [k 2 (by omega)] at hv
    rw [k _ (by omega)]
    exact a3 v hv
  · rw [og_un4] at h0 ⊢
    rw [k 2 (by omega), k (5 + e / 4) (by omega), k (85 + e) (by omega), k (85 + (og m e - 1)) (by omega)]
    exact a5 e he h0
  · rw [k 2 (by omega)] at hv
    rw [k _ (by omega), k _ (by omega)]
    exact b v hv
  · rw [k 2 (by omega)] at hv
    rw [k _ (by omega)]
    exact d v hv
  · rw [k 3 (by omega)] at z
    exact absurd z h3
theorem okn_ctm {m : Nat → Nat} (on : OkN m) {e : Nat} (he : e < 40) (h0 : og m e ≠ 0) : OkN (ctm m e) := by
  have hog := og_le on.1.2.2.2.1 he
  have h2 := on.1.2.1
  have em : m (45 + e) = og m e := rfl
  have small : ∀ j, j < 45 → ctm m e j = m j := fun j hj => by unfold ctm; rw [if_neg (by omega)]
  obtain ⟨a, b, c, d, e', f, g⟩ := on
  refine ⟨(ok_ctm a he h0).1, fun v hv => ?_, by rw [small 0 (by omega)]; exact c, fun v hv => ?_, by rw [small 3 (by omega)]; exact e', by rw [small 4 (by omega)]; exact f, fun z => ?_⟩
  · rw [small 2 (by omega)] at hv
    rw [small (25 + v) (by omega), small (35 + v) (by omega)]
    exact b v hv
  · rw [small 2 (by omega)] at hv
    rw [small (15 + v) (by omega)]
    exact d v hv
  · rw [small 3 (by omega)] at z
    rw [small 2 (by omega), small 4 (by omega)]
    exact g z
theorem q_pull {F : Nat} (hF : 1000 ≤ F) (x y : Int32) : Ac (f11_pull F x y) (f12_pull F x y) := by
  rintro h m kn ms ra
  have ra' := ra
  obtain ⟨co, ch', ps⟩ := ra
  have on := co.2.2.1
  have b := net_le co.2.1
  have h2 := on.1.2.1
  have g := on.1.2.2.2.1
  have m4b := on.2.2.2.2.2.1
  have cm := co.2.2.2.1
  have cn := co.2.2.2.2.1.1
  have n1 : ¬ (nI 1 : Int32) = 0 := by decide
  have same : ∀ V : Int32, Ev (f12_pull F x y h) (fun p => p = (V, h)) → Ev (some (V, h)) (fun o => Ev (f12_pull F x y o.2) (fun p => o.1 = p.1 ∧ Fx h p.2 ∧ ∃ m' ms', RA p.2 m' kn ms')) := fun V hV => Ev.some (Ev.mono hV (fun p hp => by rw [hp]; exact ⟨rfl, Fx.refl _, m, ms, ra'⟩))
  unfold f11_pull
  refine Ev.nm ?_
  rw [co.1, ni_cl (by omega)]
  refine Ev.grd co.2.1 ?_
  rw [x_hasPort x y on.1 cn]
  refine ev_bs ?_
  dsimp only
  by_cases np : isP m x y = false
  · refine Ev.pos (by rw [np]; rfl) (same (-2) ?_)
    unfold f12_pull
    rw [x_isPort x y on.1 cm, np]
    exact ev_bs (Ev.pos rfl (Ev.some rfl))
  · obtain ⟨v, p, hv, hp, rfl, rfl⟩ := isP_ex np
    have hpp := on.1.2.2.1 v hv
    have he : 4 * v + p < 40 := by omega
    have e4 : (4 : Int32) * nI v + nI p = nI (4 * v + p) := by rw [l32_4, ni_mul, nI_add]
    obtain ⟨e, hee⟩ : ∃ e, e = 4 * v + p := ⟨_, rfl⟩
    rw [← hee] at he e4
    have hog := og_le g he
    refine Ev.neg (by rw [isP_t hv hp]; decide) ?_
    rw [x_endOf, ← hee]
    refine ev_bs (Ev.nm ?_)
    dsimp only
    rw [co.1, ni_cl (by omega)]
    refine Ev.grd co.2.1 ?_
    rw [x_isCabled F kn e (og m e) h he (by omega) (cn.2.2.2.1 e he)]
    refine ev_bs ?_
    dsimp only
    have c4 : h 69 ((4 : Int32)).toNatClampNeg = nI (m 4) := cm 4 (by omega)
    by_cases z : og m e = 0
    · refine Ev.pos (by rw [if_pos z]; rfl) (same (-5) ?_)
      unfold f12_pull
      rw [x_isPort _ _ on.1 cm, isP_t hv hp]
      refine ev_bs (Ev.neg n1 ?_)
      dsimp only
      rw [e4, x_otherOf cm he, z]
      exact ev_bs (Ev.pos (by decide : (mm : Int32) < 0) (Ev.some rfl))
    · refine Ev.neg (by rw [if_neg z]; decide) ?_
      by_cases full : m 4 < 20
      rotate_left
      · have fu : f0_areFull F h = some (nI 1, h) := by
          refine Ev.eq ?_
          unfold f0_areFull
          exact Ev.neg (by rw [ch'.1]; simp (disch := omega) only [up_s, up_k, up_j, mm_neg, mm_def, ni_lt, ni_le, ni_eq, ni_mm, mm_ni, ni_lt_mm, ni_le_mm, mm_lt_ni, mm_le_ni, mm_lt_mm, mm_le_mm, ni_cl, ni_in, nI_add, ni_mul, ni_div, ni_rem, ni_rem2, fr_sub, fr_mm, fr_ge0, fr_lt0, fr_inj, l32_0, l32_1, l32_2, l32_3, l32_4, l32_5, l32_6, l32_7, l32_8, l32_9, l32_10, l32_11, l32_12, l32_13, l32_14, l32_15, l32_16, l32_20, l32_24, l32_25, l32_26, l32_31, l32_32, l32_34, l32_35, l32_39, l32_40, l32_44, l32_45, l32_46, l32_47, l32_48, l32_49, l32_57, l32_58, l32_59, l32_63, l32_64, l32_85, l32_90, l32_97, l32_99, l32_100, l32_110, l32_112, l32_122, l32_124, l32_125, l32_255, l32_680, l32_699, l32_700, l32_999, l32_2500, l32_99999, l32_100000, l32_1000000, if_true, if_false, ite_true, ite_false, ce_nm, Option.bind, if_pos, if_neg]; exact full) (Ev.some rfl)
        rw [fu]
        refine ev_bs (Ev.neg n1 (same (-5) ?_))
        unfold f12_pull
        rw [x_isPort _ _ on.1 cm, isP_t hv hp]
        refine ev_bs (Ev.neg n1 ?_)
        dsimp only
        rw [e4, x_otherN cm he z]
        refine ev_bs (Ev.neg (by simp (disch := omega) only [up_s, up_k, up_j, mm_neg, mm_def, ni_lt, ni_le, ni_eq, ni_mm, mm_ni, ni_lt_mm, ni_le_mm, mm_lt_ni, mm_le_ni, mm_lt_mm, mm_le_mm, ni_cl, ni_in, nI_add, ni_mul, ni_div, ni_rem, ni_rem2, fr_sub, fr_mm, fr_ge0, fr_lt0, fr_inj, l32_0, l32_1, l32_2, l32_3, l32_4, l32_5, l32_6, l32_7, l32_8, l32_9, l32_10, l32_11, l32_12, l32_13, l32_14, l32_15, l32_16, l32_20, l32_24, l32_25, l32_26, l32_31, l32_32, l32_34, l32_35, l32_39, l32_40, l32_44, l32_45, l32_46, l32_47, l32_48, l32_49, l32_57, l32_58, l32_59, l32_63, l32_64, l32_85, l32_90, l32_97, l32_99, l32_100, l32_110, l32_112, l32_122, l32_124, l32_125, l32_255, l32_680, l32_699, l32_700, l32_999, l32_2500, l32_99999, l32_100000, l32_1000000, if_true, if_false, ite_true, ite_false, ce_nm, Option.bind, if_pos, if_neg]; omega) (Ev.pos (by dsimp only; rw [c4, show m 4 = 20 by omega]; rfl) (Ev.some rfl)))
      · have fu : f0_areFull F h = some (nI 0, h) := by
          refine Ev.eq ?_
          unfold f0_areFull
          exact Ev.pos (by rw [ch'.1]; simp (disch := omega) only [up_s, up_k, up_j, mm_neg, mm_def, ni_lt, ni_le, ni_eq, ni_mm, mm_ni, ni_lt_mm, ni_le_mm, mm_lt_ni, mm_le_ni, mm_lt_mm, mm_le_mm, ni_cl, ni_in, nI_add, ni_mul, ni_div, ni_rem, ni_rem2, fr_sub, fr_mm, fr_ge0, fr_lt0, fr_inj, l32_0, l32_1, l32_2, l32_3, l32_4, l32_5, l32_6, l32_7, l32_8, l32_9, l32_10, l32_11, l32_12, l32_13, l32_14, l32_15, l32_16, l32_20, l32_24, l32_25, l32_26, l32_31, l32_32, l32_34, l32_35, l32_39, l32_40, l32_44, l32_45, l32_46, l32_47, l32_48, l32_49, l32_57, l32_58, l32_59, l32_63, l32_64, l32_85, l32_90, l32_97, l32_99, l32_100, l32_110, l32_112, l32_122, l32_124, l32_125, l32_255, l32_680, l32_699, l32_700, l32_999, l32_2500, l32_99999, l32_100000, l32_1000000, if_true, if_false, ite_true, ite_false, ce_nm, Option.bind, if_pos, if_neg]; exact full) (Ev.some rfl)
        obtain ⟨n, hn⟩ : ∃ n, m 4 = n := ⟨_, rfl⟩
        have m3 : m 3 ≠ 0 := fun q => by have := (on.2.2.2.2.2.2 q).1; omega
        have on4 := okn4 (x := n + 1) on (by omega) m3
        have z4 : og (un m 4 (n + 1)) e ≠ 0 := by rw [og_un4]; exact z
        have on' := okn_ctm on4 he z4
        have oce := og_ctm on4.1 he z4
        have kk := ok_ctm on4.1 he z4
        rw [og_un4] at oce kk
        have pg : Pg (ctm (un m 4 (n + 1)) e) m e := by
          refine ⟨oce, fun i hi q => ?_, fun j hj hj4 => ?_⟩
          · rw [(kk.2.2.2.2 i hi q).2, un_n (by omega)]
          · have em : un m 4 (n + 1) (45 + e) = og m e := un_n (by omega)
            unfold ctm
            rw [em, if_neg (by omega), un_n hj4]
        rw [fu]
        refine ev_bs (Ev.pos rfl (Ev.nm ?_))
        dsimp only
        rw [co.1, ni_cl (by omega)]
        refine Ev.grd co.2.1 (Ev.grd (ni_in (by omega) he) (Ev.nm (Ev.grd co.2.1 (Ev.grd (ni_in (by omega) he) ?_))))
        rw [ni_cl (by omega), cn.2.2.2.1 e he, fr_p (by omega), cn.2.2.2.2 e he z]
        refine Ev.bind (x_keep (by rw [ch'.1, hn]) (by omega) _ _ _ _) (fun h1 hh1 => ?_)
        obtain ⟨f1, k35, k36, k37, k38, k39, krow⟩ := hh1
        have nr1 : NetR h1 kn m := NetR.eqv' co.2.1 co.2.2.2.2.1 (fun q q1 q2 => f1 q (by omega))
        refine Ev.nm ?_
        rw [f1 0 (by omega), co.1, ni_cl (by omega)]
        refine Ev.grd co.2.1 (Ev.bind (x_unlink nr1 on.1 he z pg) (fun h3 hh3 => ?_))
        obtain ⟨fc, nr3⟩ := hh3
        have k3 : ∀ c, c < kn ∨ kn + 6 < c → h3 c = h1 c := fun c hc => fc.1 c (by omega) (by omega) (by omega)
        refine Ev.bind (x_refresh (by rw [k3 0 (by omega), f1 0 (by omega)]; exact co.1) co.2.1 on' nr3 hF) (fun h5 hh5 => Ev.some ?_)
        obtain ⟨f5, lv⟩ := hh5
        have hi5 : ∀ c, 64 < c → h5 c = h c := fun c hc => by rw [f5 c (by omega), k3 c (by omega), f1 c (by omega)]
        have mn5 : MN h5 m := fun j hj => by rw [hi5 69 (by omega)]; exact cm j hj
        dsimp only
        unfold f12_pull
        rw [x_isPort _ _ on.1 mn5, isP_t hv hp]
        refine ev_bs (Ev.neg n1 ?_)
        dsimp only
        rw [e4, x_otherN mn5 he z]
        have c45 : h5 69 ((4 : Int32)).toNatClampNeg = nI (m 4) := mn5 4 (by omega)
        refine ev_bs (Ev.neg (by simp (disch := omega) only [up_s, up_k, up_j, mm_neg, mm_def, ni_lt, ni_le, ni_eq, ni_mm, mm_ni, ni_lt_mm, ni_le_mm, mm_lt_ni, mm_le_ni, mm_lt_mm, mm_le_mm, ni_cl, ni_in, nI_add, ni_mul, ni_div, ni_rem, ni_rem2, fr_sub, fr_mm, fr_ge0, fr_lt0, fr_inj, l32_0, l32_1, l32_2, l32_3, l32_4, l32_5, l32_6, l32_7, l32_8, l32_9, l32_10, l32_11, l32_12, l32_13, l32_14, l32_15, l32_16, l32_20, l32_24, l32_25, l32_26, l32_31, l32_32, l32_34, l32_35, l32_39, l32_40, l32_44, l32_45, l32_46, l32_47, l32_48, l32_49, l32_57, l32_58, l32_59, l32_63, l32_64, l32_85, l32_90, l32_97, l32_99, l32_100, l32_110, l32_112, l32_122, l32_124, l32_125, l32_255, l32_680, l32_699, l32_700, l32_999, l32_2500, l32_99999, l32_100000, l32_1000000, if_true, if_false, ite_true, ite_false, ce_nm, Option.bind, if_pos, if_neg]; omega) (Ev.neg (by dsimp only; rw [c45]; simp (disch := omega) only [up_s, up_k, up_j, mm_neg, mm_def, ni_lt, ni_le, ni_eq, ni_mm, mm_ni, ni_lt_mm, ni_le_mm, mm_lt_ni, mm_le_ni, mm_lt_mm, mm_le_mm, ni_cl, ni_in, nI_add, ni_mul, ni_div, ni_rem, ni_rem2, fr_sub, fr_mm, fr_ge0, fr_lt0, fr_inj, l32_0, l32_1, l32_2, l32_3, l32_4, l32_5, l32_6, l32_7, l32_8, l32_9, l32_10, l32_11, l32_12, l32_13, l32_14, l32_15, l32_16, l32_20, l32_24, l32_25, l32_26, l32_31, l32_32, l32_34, l32_35, l32_39, l32_40, l32_44, l32_45, l32_46, l32_47, l32_48, l32_49, l32_57, l32_58, l32_59, l32_63, l32_64, l32_85, l32_90, l32_97, l32_99, l32_100, l32_110, l32_112, l32_122, l32_124, l32_125, l32_255, l32_680, l32_699, l32_700, l32_999, l32_2500, l32_99999, l32_100000, l32_1000000, if_true, if_false, ite_true, ite_false, ce_nm, Option.bind, if_pos, if_neg]; omega) ?_))
        dsimp only
        refine Ev.bind (x_keeps mn5 hn (by omega) hF) (fun h6 hh6 => ?_)
        obtain ⟨f6, mn6, p6, q6⟩ := hh6
        refine Ev.bind (x_takes on4.1.2.2.2.1 mn6 he z4) (fun h7 hh7 => ?_)
        obtain ⟨f7, mn7⟩ := hh7
        refine Ev.bind (x_busesOf on'.1 mn7 hF) (fun o ho => Ev.some ?_)
        obtain ⟨o1, f8, -⟩ := ho
        have all : ∀ c, c ≠ 69 → c ≠ 71 → c ≠ 75 → o.2 c = h5 c := fun c q1 q2 q3 => by rw [f8 c (by omega), f7.1 c q1, f6 c q1 q2]
        have lv8 : Liv o.2 (ctm (un m 4 (n + 1)) e) := lv.eqv (fun q hq => all q (by omega) (by omega) (by omega))
        have low : ∀ c, c < 40 → (c < kn ∨ kn + 6 < c) → o.2 c = h1 c := fun c c1 c2 => by rw [all c (by omega) (by omega) (by omega), f5 c (by omega), k3 c c2]
        refine ⟨?_, fun c hc => ?_, _, _, RA_act ra' hn ?_ ?_ ⟨?_, co.2.1, on', mn7.fr f8 (by omega), NetR.eqv co.2.1 nr3 (fun q hq => by rw [all q (by omega) (by omega) (by omega), f5 q (by omega)]), Or.inr lv8⟩ ?_ ?_ (fun i hi => ?_) (fun j hj => ?_) (fun j hj => ?_)⟩
        · dsimp only
          rw [o1]
          exact lv.1.1
        · dsimp only
          rcases Nat.lt_or_ge c 40 with q | q
          · rw [low c q (by omega), f1 c (by omega)]
          · rw [all c (by omega) (by omega) (by omega)]; exact hi5 c (by omega)
        · have em : un m 4 (n + 1) (45 + e) = og m e := un_n (by omega)
          unfold ctm
          rw [em, if_neg (by omega), un_s]
        · have em : un m 4 (n + 1) (45 + e) = og m e := un_n (by omega)
          unfold ctm
          rw [em, if_neg (by omega), un_n (by omega)]
        · rw [low 0 (by omega) (by omega), f1 0 (by omega)]; exact co.1
        · rw [low 35 (by omega) (by omega)]; exact k35
        · refine Or.inr (Or.inl ⟨e, he, ?_, ?_, ?_, ?_, z, pg⟩)
          · rw [low 36 (by omega) (by omega), k36]; rfl
          · rw [low 37 (by omega) (by omega), k37]
          · rw [low 38 (by omega) (by omega), k38]
          · rw [low 39 (by omega) (by omega), k39]
        · rw [low 36 (by omega) (by omega), low 37 (by omega) (by omega), low 38 (by omega) (by omega), low 39 (by omega) (by omega)]
          exact krow i hi
        · rw [f8 71 (by omega), f7.1 71 (by omega)]; exact p6 j hj
        · rw [f8 71 (by omega), f7.1 71 (by omega), q6 j hj, hi5 71 (by omega)]
