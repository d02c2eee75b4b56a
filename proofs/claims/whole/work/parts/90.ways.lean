-- packet, way, hops, longest, gap, centre
noncomputable def ltr (m : Nat → Nat) (v p : Nat) : Nat := if og m (4 * v + p) = 0 then 0 else if Pf m (sM m) v = 4 * v + p + 1 then 1 else 2
theorem ltr_le (m : Nat → Nat) (v p : Nat) : ltr m v p ≤ 2 := by
  unfold ltr
  by_cases a : og m (4 * v + p) = 0
  · rw [if_pos a]; omega
  · rw [if_neg a]
    by_cases b : Pf m (sM m) v = 4 * v + p + 1
    · rw [if_pos b]; omega
    · rw [if_neg b]; omega
theorem x_cletter {m : Nat → Nat} {kn v F : Nat} {h : Hp} (y : Int32) (c : Co h m kn) (l : Liv h m) (hv : v < m 2) : f11_letterOf F (nI v) y h = some (if isP m (nI v) y = true then nI (ltr m v y.toNatClampNeg) else mm, h) := by
  have on := c.2.2.1
  have b := net_le c.2.1
  have h2 := on.1.2.1
  refine Ev.eq ?_
  unfold f11_letterOf
  refine Ev.nm ?_
  rw [c.1, ni_cl (by omega)]
  refine Ev.grd c.2.1 ?_
  rw [x_hasPort (nI v) y on.1 c.2.2.2.2.1.1]
  refine ev_bs ?_
  dsimp only
  by_cases np : isP m (nI v) y = false
  · refine Ev.pos (by rw [np]; rfl) (Ev.some ?_)
    rw [np]
    rfl
  · obtain ⟨u, p, hu, hp, e1, rfl⟩ := isP_ex np
    rw [ni_eq (by omega) (by omega)] at e1
    subst e1
    have hpp := on.1.2.2.1 v hv
    have he : 4 * v + p < 40 := by omega
    have ev : (4 * v + p) / 4 = v := by omega
    refine Ev.neg (by rw [isP_t hv hp]; decide) (Ev.nm ?_)
    rw [c.1, ni_cl (by omega)]
    refine Ev.grd c.2.1 ?_
    rw [x_endOf]
    refine ev_bs ?_
    dsimp only
    rw [x_roleOf on.1 c.2.2.2.2.1.1 on.fs.po (fun v hv => (l.el hv).2.2.2) he]
    refine ev_bs ?_
    dsimp only
    rw [isP_t hv hp, if_pos rfl, ni_cl (by omega)]
    have rl := ro_le (og m) (Pf m (sM m)) (4 * v + p)
    unfold ltr
    by_cases z : og m (4 * v + p) = 0
    · have r0 : ro (og m) (Pf m (sM m)) (4 * v + p) = 0 := by unfold ro; rw [if_pos z]
      refine Ev.pos (by rw [r0]; rfl) (Ev.some ?_)
      rw [if_pos z]
      rfl
    · rw [if_neg z]
      by_cases w : Pf m (sM m) v = 4 * v + p + 1
      · have r0 : ro (og m) (Pf m (sM m)) (4 * v + p) = 1 := by unfold ro; rw [if_neg z, ev, if_pos w]
        refine Ev.neg (by rw [r0]; decide) (Ev.pos (by rw [r0]; rfl) (Ev.some ?_))
        rw [if_pos w]
        rfl
      · have r0 : 2 ≤ ro (og m) (Pf m (sM m)) (4 * v + p) := by
          unfold ro
          rw [if_neg z, ev, if_neg w]
          by_cases q : ch (og m) (Pf m (sM m)) (4 * v + p) = true
          · rw [if_pos q]; omega
          · rw [if_neg q]; omega
        refine Ev.neg (by simp (disch := omega) only [up_s, up_k, up_j, mm_neg, mm_def, ni_lt, ni_le, ni_eq, ni_mm, mm_ni, ni_lt_mm, ni_le_mm, mm_lt_ni, mm_le_ni, mm_lt_mm, mm_le_mm, ni_cl, ni_in, nI_add, ni_mul, ni_div, ni_rem, ni_rem2, fr_sub, fr_mm, fr_ge0, fr_lt0, fr_inj, l32_0, l32_1, l32_2, l32_3, l32_4, l32_5, l32_6, l32_7, l32_8, l32_9, l32_10, l32_11, l32_12, l32_13, l32_14, l32_15, l32_16, l32_20, l32_24, l32_25, l32_26, l32_31, l32_32, l32_34, l32_35, l32_39, l32_40, l32_44, l32_45, l32_46, l32_47, l32_48, l32_49, l32_57, l32_58, l32_59, l32_63, l32_64, l32_85, l32_90, l32_97, l32_99, l32_100, l32_110, l32_112, l32_122, l32_124, l32_125, l32_255, l32_680, l32_699, l32_700, l32_999, l32_2500, l32_99999, l32_100000, l32_1000000, if_true, if_false, ite_true, ite_false, ce_nm, Option.bind, if_pos, if_neg]; omega) (Ev.neg (by simp (disch := omega) only [up_s, up_k, up_j, mm_neg, mm_def, ni_lt, ni_le, ni_eq, ni_mm, mm_ni, ni_lt_mm, ni_le_mm, mm_lt_ni, mm_le_ni, mm_lt_mm, mm_le_mm, ni_cl, ni_in, nI_add, ni_mul, ni_div, ni_rem, ni_rem2, fr_sub, fr_mm, fr_ge0, fr_lt0, fr_inj, l32_0, l32_1, l32_2, l32_3, l32_4, l32_5, l32_6, l32_7, l32_8, l32_9, l32_10, l32_11, l32_12, l32_13, l32_14, l32_15, l32_16, l32_20, l32_24, l32_25, l32_26, l32_31, l32_32, l32_34, l32_35, l32_39, l32_40, l32_44, l32_45, l32_46, l32_47, l32_48, l32_49, l32_57, l32_58, l32_59, l32_63, l32_64, l32_85, l32_90, l32_97, l32_99, l32_100, l32_110, l32_112, l32_122, l32_124, l32_125, l32_255, l32_680, l32_699, l32_700, l32_999, l32_2500, l32_99999, l32_100000, l32_1000000, if_true, if_false, ite_true, ite_false, ce_nm, Option.bind, if_pos, if_neg]; omega) (Ev.some ?_))
        rw [if_neg w]
        rfl
theorem x_mletter {m : Nat → Nat} {kn v p F : Nat} {h : Hp} (c : Co h m kn) (mf : MF h m (sM m)) (hv : v < m 2) (hp : p < 4) : f12_letterOf F (nI v) (nI p) h = some (nI (ltr m v p), h) := by
  have on := c.2.2.1
  have h2 := on.1.2.1
  have he : 4 * v + p < 40 := by omega
  have e4 : (4 : Int32) * nI v + nI p = nI (4 * v + p) := by rw [l32_4, ni_mul, nI_add]
  have hog := og_le on.1.2.2.2.1 he
  have e82 : h 82 v = fr (Pf m (sM m) v) := (mf v hv).2.2.2
  have pl := on.fs.po.le (v := v) (by omega)
  refine Ev.eq ?_
  unfold f12_letterOf ltr
  rw [e4, x_otherOf c.2.2.2.1 he]
  refine ev_bs ?_
  dsimp only
  by_cases z : og m (4 * v + p) = 0
  · refine Ev.neg (by rw [z]; decide) (Ev.some ?_)
    rw [if_pos z]
    rfl
  · refine Ev.pos (by rw [fr_p (by omega)]; simp (disch := omega) only [up_s, up_k, up_j, mm_neg, mm_def, ni_lt, ni_le, ni_eq, ni_mm, mm_ni, ni_lt_mm, ni_le_mm, mm_lt_ni, mm_le_ni, mm_lt_mm, mm_le_mm, ni_cl, ni_in, nI_add, ni_mul, ni_div, ni_rem, ni_rem2, fr_sub, fr_mm, fr_ge0, fr_lt0, fr_inj, l32_0, l32_1, l32_2, l32_3, l32_4, l32_5, l32_6, l32_7, l32_8, l32_9, l32_10, l32_11, l32_12, l32_13, l32_14, l32_15, l32_16, l32_20, l32_24, l32_25, l32_26, l32_31, l32_32, l32_34, l32_35, l32_39, l32_40, l32_44, l32_45, l32_46, l32_47, l32_48, l32_49, l32_57, l32_58, l32_59, l32_63, l32_64, l32_85, l32_90, l32_97, l32_99, l32_100, l32_110, l32_112, l32_122, l32_124, l32_125, l32_255, l32_680, l32_699, l32_700, l32_999, l32_2500, l32_99999, l32_100000, l32_1000000, if_true, if_false, ite_true, ite_false, ce_nm, Option.bind, if_pos, if_neg]; omega) (Ev.grd (ni_in (by omega) (by omega)) ?_)
    rw [ni_cl (by omega), if_neg z]
    by_cases w : Pf m (sM m) v = 4 * v + p + 1
    · refine Ev.pos (by rw [e82, w, fr_s]) (Ev.some ?_)
      rw [if_pos w]
      rfl
    · refine Ev.neg (by rw [e82, ← fr_s (4 * v + p), fr_inj (by omega) (by omega)]; exact w) (Ev.some ?_)
      rw [if_neg w]
      rfl
theorem q_packet {F : Nat} (hF : 1000 ≤ F) (x y : Int32) : Gd (f11_packet F x y) (f12_packet F x y) := by
  intro m kn
  by_cases on : OkN m
  rotate_left
  · exact ⟨0, fun h c => absurd c.2.2.1 on, fun h c => absurd c.2.2.1 on⟩
  have h2 := on.1.2.1
  have n1 : ¬ (nI 1 : Int32) = 0 := by decide
  rcases i32_of y with hy | ⟨p, hp', rfl⟩
  · have ny : ¬ (0 : Int32) ≤ y := fun q => by
      have a := Int32.le_iff_toInt_le.mp q
      have b := Int32.lt_iff_toInt_lt.mp hy
      have : (nI 0).toInt = (0 : Int32).toInt := rfl
      omega
    refine ⟨-2, fun h c => ?_, fun h c => ?_⟩
    · unfold f11_packet
      exact Ev.neg ny (Ev.some ⟨rfl, Sc.refl _⟩)
    · unfold f12_packet
      rw [x_isNode x h2 c.2.2.2.1]
      refine ev_bs ?_
      dsimp only
      by_cases nx : isN m x = true
      · exact Ev.neg (by rw [if_pos nx]; decide) (Ev.neg ny (Ev.some ⟨rfl, Sc.refl _⟩))
      · exact Ev.pos (by rw [if_neg nx]; rfl) (Ev.some ⟨rfl, Sc.refl _⟩)
  · have py : (0 : Int32) ≤ nI p := by simp (disch := omega) only [up_s, up_k, up_j, mm_neg, mm_def, ni_lt, ni_le, ni_eq, ni_mm, mm_ni, ni_lt_mm, ni_le_mm, mm_lt_ni, mm_le_ni, mm_lt_mm, mm_le_mm, ni_cl, ni_in, nI_add, ni_mul, ni_div, ni_rem, ni_rem2, fr_sub, fr_mm, fr_ge0, fr_lt0, fr_inj, l32_0, l32_1, l32_2, l32_3, l32_4, l32_5, l32_6, l32_7, l32_8, l32_9, l32_10, l32_11, l32_12, l32_13, l32_14, l32_15, l32_16, l32_20, l32_24, l32_25, l32_26, l32_31, l32_32, l32_34, l32_35, l32_39, l32_40, l32_44, l32_45, l32_46, l32_47, l32_48, l32_49, l32_57, l32_58, l32_59, l32_63, l32_64, l32_85, l32_90, l32_97, l32_99, l32_100, l32_110, l32_112, l32_122, l32_124, l32_125, l32_255, l32_680, l32_699, l32_700, l32_999, l32_2500, l32_99999, l32_100000, l32_1000000, if_true, if_false, ite_true, ite_false, ce_nm, Option.bind, if_pos, if_neg]; omega
    by_cases nx : isN m x = false
    · refine ⟨-2, fun h c => ?_, fun h c => ?_⟩
      · unfold f11_packet
        rw [x_refusal0 c nx]
        exact Ev.pos py (ev_bs (Ev.neg cn2 (Ev.some ⟨rfl, Sc.refl _⟩)))
      · unfold f12_packet
        rw [x_isNode x h2 c.2.2.2.1, nx]
        exact ev_bs (Ev.pos rfl (Ev.some ⟨rfl, Sc.refl _⟩))
    · obtain ⟨v, hv, rfl⟩ := isN_ex nx
      have hpp := on.1.2.2.1 v hv
      have e5 : (5 : Int32) + nI v = nI (5 + v) := by rw [l32_5, nI_add]
      by_cases z : sz (og m) v ≤ cb (og m) v
      · refine ⟨mm, fun h c => ?_, fun h c => ?_⟩
        · unfold f11_packet
          rw [x_refusal c hv, if_pos z]
          exact Ev.pos py (ev_bs (Ev.neg cmm (Ev.some ⟨rfl, Sc.refl _⟩)))
        · unfold f12_packet
          rw [x_isNode _ h2 c.2.2.2.1, isN_t hv]
          refine ev_bs (Ev.neg n1 (Ev.pos py (Ev.bind (x_whyNot c hv hF) (fun o ho => ?_))))
          rw [if_pos z] at ho
          exact Ev.pos (by rw [ho.1]; decide) (Ev.some ⟨rfl, ho.2.1⟩)
      · refine ⟨if isP m (nI v) (nI p) = true then nI (ltr m v p) else mm, fun h c => ?_, fun h c => ?_⟩
        · unfold f11_packet
          rw [x_refusal c hv, if_neg z]
          refine Ev.pos py (ev_bs (Ev.pos rfl ?_))
          dsimp only
          rw [x_cletter (nI p) c (c.liv hv) hv, ni_cl hp']
          exact ev_bs (Ev.some ⟨rfl, Sc.refl _⟩)
        · unfold f12_packet
          rw [x_isNode _ h2 c.2.2.2.1, isN_t hv]
          refine ev_bs (Ev.neg n1 (Ev.pos py (Ev.bind (x_whyNot c hv hF) (fun o ho => ?_))))
          rw [if_neg z] at ho
          have c1 := c.sc ho.2.1
          refine Ev.neg (by rw [ho.1]; decide) ?_
          rw [e5]
          refine Ev.grd (ni_in (by omega) (by omega)) ?_
          rw [ni_cl (by omega), c1.2.2.2.1 _ (by omega)]
          by_cases w : p < m (5 + v)
          · refine Ev.pos (by rw [ni_lt (by omega) (by omega)]; exact w) ?_
            rw [x_mletter c1 ho.2.2.1 hv (by omega), isP_t hv w]
            exact ev_bs (Ev.some ⟨rfl, ho.2.1⟩)
          · refine Ev.neg (by rw [ni_lt (by omega) (by omega)]; exact w) (Ev.some ⟨?_, ho.2.1⟩)
            rw [isP_out on.1 hv (fun q hq e => by rw [ni_eq (by omega) (by omega)] at e; omega)]
            rfl
/-- the lengths of ways in a tree -/
noncomputable def Ec (m : Nat → Nat) (w : Nat) : Nat := Classical.epsilon (fun e => ∀ hp dy, Bf m (og m) w hp dy → ec dy = e)
noncomputable def Wy (m : Nat → Nat) (v w : Nat) : Nat := Classical.epsilon (fun e => ∀ hp dy, Bf m (og m) v hp dy → dy w = e)
noncomputable def Hy (m : Nat → Nat) (v w : Nat) : Nat := Classical.epsilon (fun e => ∀ hp dy, Bf m (og m) v hp dy → hp w = e)
theorem bf0 {m : Nat → Nat} (ok : OkG m) {a : Nat} (ha : a < m 2) : ∃ hp dy, Bf m (og m) a hp dy := by
  obtain ⟨hp, dy, bf⟩ := bf_ex (lx := 0) ok ha (by omega)
  rw [cu0] at bf
  exact ⟨hp, dy, bf⟩
theorem Ec_of {m : Nat → Nat} (ok : OkG m) {a : Nat} (ha : a < m 2) (tr : ¬ sz (og m) a ≤ cb (og m) a) : ∀ hp dy, Bf m (og m) a hp dy → ec dy = Ec m a := by
  obtain ⟨hp, dy, bf⟩ := bf0 ok ha
  exact Classical.epsilon_spec (p := fun e => ∀ hp dy, Bf m (og m) a hp dy → ec dy = e) ⟨ec dy, fun hp' dy' bf' => mx_congr (fun i hi => by rw [(bf_uniq ok ha tr bf bf' i hi).1])⟩
theorem Wy_of {m : Nat → Nat} (ok : OkG m) {a w : Nat} (ha : a < m 2) (hw : w < 10) (tr : ¬ sz (og m) a ≤ cb (og m) a) : ∀ hp dy, Bf m (og m) a hp dy → dy w = Wy m a w := by
  obtain ⟨hp, dy, bf⟩ := bf0 ok ha
  exact Classical.epsilon_spec (p := fun e => ∀ hp dy, Bf m (og m) a hp dy → dy w = e) ⟨dy w, fun hp' dy' bf' => ((bf_uniq ok ha tr bf bf' w hw).1).symm⟩
theorem Hy_of {m : Nat → Nat} (ok : OkG m) {a w : Nat} (ha : a < m 2) (hw : w < 10) (tr : ¬ sz (og m) a ≤ cb (og m) a) : ∀ hp dy, Bf m (og m) a hp dy → hp w = Hy m a w := by
  obtain ⟨hp, dy, bf⟩ := bf0 ok ha
  exact Classical.epsilon_spec (p := fun e => ∀ hp dy, Bf m (og m) a hp dy → hp w = e) ⟨hp w, fun hp' dy' bf' => ((bf_uniq ok ha tr bf bf' w hw).2).symm⟩
theorem Fw.sc {h h' : Hp} (f : Fw h h') : Sc h h' := f.fr.sc (by omega)
theorem gd_way {F : Nat} {x y : Int32} {a b : Hp → Option (Int32 × Hp)} {ca cb' : Nat} {val : (Nat → Nat) → Nat → Nat → Nat} (hF : 1000 ≤ F) (ea : ∀ h, a h = Option.bind (f11_wayRefusal F x y h) (fun o3 => if o3.1 = 0 then ce_nm ((o3.2 0 2).toNatClampNeg) (fun k_18 => if ce_isNet k_18 then Option.bind (f10_start F k_18 x (-1 : Int32) o3.2) (fun o23 => if ce_in y 10 = true then some (o23 ca (y).toNatClampNeg, o23) else none) else none) else some (o3.1, o3.2))) (eb : ∀ h, b h = Option.bind (f12_whyNotBoth F x y h) (fun o3 => if 0 ≤ o3.1 then if ce_in y 10 = true then some (o3.2 cb' (y).toNatClampNeg, o3.2) else none else some (o3.1, o3.2)))
    (h1 : ∀ (m : Nat → Nat) (v w : Nat) (hp dy : Nat → Nat) (h : Hp) (s : Nat) (q : Nat → Nat), OkG m → v < m 2 → w < 10 → ¬ sz (og m) v ≤ cb (og m) v → Bf m (og m) v hp dy → Bs h s q hp dy → h ca w = fr (val m v w)) (h2' : ∀ (m : Nat → Nat) (v w : Nat) (hp dy : Nat → Nat) (h : Hp), OkG m → v < m 2 → w < 10 → ¬ sz (og m) v ≤ cb (og m) v → Bf m (og m) v hp dy → (∀ v, v < 10 → h 84 v = fr (dy v) ∧ h 85 v = fr (hp v)) → h cb' w = fr (val m v w)) (h3 : ∀ m v w, OkG m → v < m 2 → w < 10 → ¬ sz (og m) v ≤ cb (og m) v → ¬ Cn (og m) v w → val m v w = 0) : Gd a b := by
  intro m kn
  by_cases on : OkN m
  rotate_left
  · exact ⟨0, fun h c => absurd c.2.2.1 on, fun h c => absurd c.2.2.1 on⟩
  have h2 := on.1.2.1
  have n1 : ¬ (nI 1 : Int32) = 0 := by decide
  by_cases nx : isN m x = false
  · refine ⟨-2, fun h c => ?_, fun h c => ?_⟩
    · have b := net_le c.2.1
      rw [ea]
      have : f11_wayRefusal F x y h = some (-2, h) := by
        refine Ev.eq ?_
        unfold f11_wayRefusal
        refine Ev.nm ?_
        rw [c.1, ni_cl (by omega)]
        refine Ev.grd c.2.1 ?_
        rw [x_hasNode x h2 c.2.2.2.2.1.1.2.1, nx]
        exact ev_bs (Ev.pos rfl (Ev.some rfl))
      rw [this]
      exact ev_bs (Ev.neg cn2 (Ev.some ⟨rfl, Sc.refl _⟩))
    · rw [eb]
      have : f12_whyNotBoth F x y h = some (-2, h) := by
        refine Ev.eq ?_
        unfold f12_whyNotBoth
        rw [x_isNode x h2 c.2.2.2.1, nx]
        exact ev_bs (Ev.pos rfl (Ev.some rfl))
      rw [this]
      exact ev_bs (Ev.neg cn2' (Ev.some ⟨rfl, Sc.refl _⟩))
  · obtain ⟨v, hv, rfl⟩ := isN_ex nx
    by_cases ny : isN m y = false
    · refine ⟨-2, fun h c => ?_, fun h c => ?_⟩
      · have b := net_le c.2.1
        rw [ea]
        have : f11_wayRefusal F (nI v) y h = some (-2, h) := by
          refine Ev.eq ?_
          unfold f11_wayRefusal
          refine Ev.nm ?_
          rw [c.1, ni_cl (by omega)]
          refine Ev.grd c.2.1 ?_
          rw [x_hasNode _ h2 c.2.2.2.2.1.1.2.1, isN_t hv]
          refine ev_bs (Ev.neg n1 (Ev.nm ?_))
          dsimp only
          rw [c.1, ni_cl (by omega)]
          refine Ev.grd c.2.1 ?_
          rw [x_hasNode _ h2 c.2.2.2.2.1.1.2.1, ny]
          exact ev_bs (Ev.pos rfl (Ev.some rfl))
        rw [this]
        exact ev_bs (Ev.neg cn2 (Ev.some ⟨rfl, Sc.refl _⟩))
      · rw [eb]
        have : f12_whyNotBoth F (nI v) y h = some (-2, h) := by
          refine Ev.eq ?_
          unfold f12_whyNotBoth
          rw [x_isNode _ h2 c.2.2.2.1, isN_t hv]
          refine ev_bs (Ev.neg n1 ?_)
          dsimp only
          rw [x_isNode _ h2 c.2.2.2.1, ny]
          exact ev_bs (Ev.pos rfl (Ev.some rfl))
        rw [this]
        exact ev_bs (Ev.neg cn2' (Ev.some ⟨rfl, Sc.refl _⟩))
    · obtain ⟨w, hw, rfl⟩ := isN_ex ny
      have refu : ∀ h, Co h m kn → f11_wayRefusal F (nI v) (nI w) h = some (if bo (Cn (og m) v w ∧ ¬ sz (og m) v ≤ cb (og m) v) = true then nI 0 else mm, h) := fun h c => by
        have b := net_le c.2.1
        have l := c.liv hv
        have cs := c.cs l
        refine Ev.eq ?_
        unfold f11_wayRefusal
        refine Ev.nm ?_
        rw [c.1, ni_cl (by omega)]
        refine Ev.grd c.2.1 ?_
        rw [x_hasNode _ h2 c.2.2.2.2.1.1.2.1, isN_t hv]
        refine ev_bs (Ev.neg n1 (Ev.nm ?_))
        dsimp only
        rw [c.1, ni_cl (by omega)]
        refine Ev.grd c.2.1 ?_
        rw [x_hasNode _ h2 c.2.2.2.2.1.1.2.1, isN_t hw]
        refine ev_bs (Ev.neg n1 ?_)
        dsimp only
        rw [x_areOne on.1 cs hv hw]
        refine ev_bs ?_
        dsimp only
        by_cases q1 : Cn (og m) v w
        · refine Ev.neg (by rw [bo_p q1]; decide) ?_
          rw [x_hasLoop on.1 cs hv]
          refine ev_bs ?_
          dsimp only
          by_cases q2 : sz (og m) v ≤ cb (og m) v
          · refine Ev.neg (by rw [if_pos q2]; decide) (Ev.some ?_)
            rw [if_neg (fun q => (bo_t.mp q).2 q2)]
            rfl
          · refine Ev.pos (by rw [if_neg q2]; rfl) (Ev.some ?_)
            rw [if_pos (bo_p ⟨q1, q2⟩)]
            rfl
        · refine Ev.pos (by rw [bo_f q1]; rfl) (Ev.some ?_)
          rw [if_neg (fun q => q1 (bo_t.mp q).1)]
          rfl
      refine ⟨if bo (Cn (og m) v w ∧ ¬ sz (og m) v ≤ cb (og m) v) = true then fr (val m v w) else mm, fun h c => ?_, fun h c => ?_⟩
      · have b := net_le c.2.1
        rw [ea, refu h c]
        refine ev_bs ?_
        dsimp only
        by_cases q : Cn (og m) v w ∧ ¬ sz (og m) v ≤ cb (og m) v
        · rw [if_pos (bo_p q)]
          refine Ev.pos rfl (Ev.nm ?_)
          rw [c.1, ni_cl (by omega)]
          refine Ev.grd c.2.1 ?_
          rw [show (-1 : Int32) = fr 0 from rfl]
          refine Ev.bind (x_start c.2.1 on.1 c.2.2.2.2.1.1 (by omega : (0 : Nat) ≤ 40) hv hF) (fun h5 hh => ?_)
          obtain ⟨fw, s, qq, hp, dy, B, bf⟩ := hh
          rw [cu0] at bf
          refine Ev.grd (ni_in (by omega) (by omega)) (Ev.some ⟨?_, fw.sc⟩)
          rw [ni_cl (by omega)]
          rw [if_pos (bo_p q)]
          exact h1 m v w hp dy _ s qq on.1 hv (by omega) q.2 bf B
        · rw [if_neg (fun w => q (bo_t.mp w))]
          exact Ev.neg cmm (Ev.some ⟨(if_neg (fun w => q (bo_t.mp w))).symm, Sc.refl _⟩)
      · rw [eb]
        have cm := c.2.2.2.1
        have why : Ev (f12_whyNotBoth F (nI v) (nI w) h) (fun o => Sc h o.2 ∧ o.1 = (if sz (og m) v ≤ cb (og m) v then mm else nI 0) ∧ (¬ sz (og m) v ≤ cb (og m) v → ∃ hp dy, Bf m (og m) v hp dy ∧ ∀ v, v < 10 → o.2 84 v = fr (dy v) ∧ o.2 85 v = fr (hp v))) := by
          unfold f12_whyNotBoth
          rw [x_isNode _ h2 cm, isN_t hv]
          refine ev_bs (Ev.neg n1 ?_)
          dsimp only
          rw [x_isNode _ h2 cm, isN_t hw]
          refine ev_bs (Ev.neg n1 ?_)
          dsimp only
          refine Ev.bind (x_isLoop on.1 cm hv hF) (fun o ho => ?_)
          obtain ⟨o1, f1, lb⟩ := ho
          by_cases q2 : sz (og m) v ≤ cb (og m) v
          · refine Ev.neg (by rw [o1, if_pos q2]; decide) (Ev.some ⟨f1.sc (by omega), ?_, fun q => absurd q2 q⟩)
            rw [if_pos q2]
            rfl
          · obtain ⟨hp, dy, bf⟩ := bf0 on.1 hv
            refine Ev.pos (by rw [o1, if_neg q2]; rfl) (Ev.bind (x_laysWays on.1 (cm.fr f1 (by omega)) hv bf q2 hF) (fun h1 hh => Ev.some ⟨(f1.sc (by omega)).trans (hh.1.sc (by omega)), ?_, fun _ => ⟨hp, dy, bf, hh.2⟩⟩))
            rw [if_neg q2]
            rfl
        refine Ev.bind why (fun o ho => ?_)
        obtain ⟨s1, o1, o2⟩ := ho
        by_cases q2 : sz (og m) v ≤ cb (og m) v
        · rw [if_pos q2] at o1
          refine Ev.neg (by rw [o1]; decide) (Ev.some ⟨?_, s1⟩)
          rw [if_neg (fun q => (bo_t.mp q).2 q2)]
          exact o1
        · rw [if_neg q2] at o1
          obtain ⟨hp, dy, bf, rows⟩ := o2 q2
          refine Ev.pos (by rw [o1]; decide) (Ev.grd (ni_in (by omega) (by omega)) (Ev.some ⟨?_, s1⟩))
          rw [ni_cl (by omega)]
          dsimp only
          rw [h2' m v w hp dy _ on.1 hv (by omega) q2 bf rows]
          by_cases q1 : Cn (og m) v w
          · rw [if_pos (bo_p ⟨q1, q2⟩)]
          · rw [if_neg (fun q => q1 (bo_t.mp q).1), h3 m v w on.1 hv (by omega) q2 q1]
            rfl
theorem q_way {F : Nat} (hF : 1000 ≤ F) (x y : Int32) : Gd (f11_way F x y) (f12_way F x y) := by
  refine gd_way (ca := 42) (cb' := 84) (val := Wy) hF (fun h => rfl) (fun h => rfl) (fun m v w hp dy h s q ok hv hw tr bf B => ?_) (fun m v w hp dy h ok hv hw tr bf r => ?_) (fun m v w ok hv hw tr nc => ?_)
  · rw [← Wy_of ok hv hw tr hp dy bf]; exact (B.2.2.2.1 w hw).2
  · rw [← Wy_of ok hv hw tr hp dy bf]; exact (r w hw).1
  · obtain ⟨hp, dy, bf⟩ := bf0 ok hv
    rw [← Wy_of ok hv hw tr hp dy bf]
    have a : hp w = 0 := Classical.byContradiction (fun q => nc ((bf.2.2.1 w hw).mp q))
    have b := (bf.2.2.2.1 w hw).2.1
    omega
theorem q_hops {F : Nat} (hF : 1000 ≤ F) (x y : Int32) : Gd (f11_hops F x y) (f12_hops F x y) := by
  refine gd_way (ca := 43) (cb' := 85) (val := Hy) hF (fun h => rfl) (fun h => rfl) (fun m v w hp dy h s q ok hv hw tr bf B => ?_) (fun m v w hp dy h ok hv hw tr bf r => ?_) (fun m v w ok hv hw tr nc => ?_)
  · rw [← Hy_of ok hv hw tr hp dy bf]; exact (B.2.2.2.1 w hw).1
  · rw [← Hy_of ok hv hw tr hp dy bf]; exact (r w hw).2
  · obtain ⟨hp, dy, bf⟩ := bf0 ok hv
    rw [← Hy_of ok hv hw tr hp dy bf]
    exact Classical.byContradiction (fun q => nc ((bf.2.2.1 w hw).mp q))
