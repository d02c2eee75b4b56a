-- laysWays; labels are one only; the farthest node
theorem x_laysWays {m : Nat → Nat} {a F : Nat} {h : Hp} {hp dy : Nat → Nat} (ok : OkG m) (c : MN h m) (ha : a < m 2) (bf : Bf m (og m) a hp dy) (tr : ¬ sz (og m) a ≤ cb (og m) a) (hF : 1000 ≤ F) : Ev (f12_laysWays F (nI a) h) (fun h' => Fr 84 85 h h' ∧ ∀ v, v < 10 → h' 84 v = fr (dy v) ∧ h' 85 v = fr (hp v)) := by
  have g := ok.2.2.2.1
  have ha10 : a < 10 := by have := ok.2.1; omega
  obtain ⟨pe, hpe⟩ := bf.pe g
  unfold f12_laysWays
  refine Ev.bind (P := fun h' => Fr 84 85 h h' ∧ ∀ v, v < 10 → h' 84 v = mm ∧ h' 85 v = mm) ?_ (fun h1 hh1 => ?_)
  · refine Ev.it (I := fun i st => st.1 = nI i ∧ Fr 84 85 h st.2 ∧ ∀ v, v < i → st.2 84 v = mm ∧ st.2 85 v = mm) _ 10 ?_ F 0 _ (by omega) (by omega) ⟨rfl, Fr.refl _ _ _, fun v hv => absurd hv (by omega)⟩
    rintro i ⟨x, h1⟩ hi hI
    obtain ⟨rfl, i1, i2⟩ : x = nI i ∧ Fr 84 85 h h1 ∧ ∀ v, v < i → h1 84 v = mm ∧ h1 85 v = mm := hI
    show Ev (f12_laysWays_b2 F (nI a) (nI i) h1) _
    unfold f12_laysWays_b2
    by_cases hin : 10 ≤ i
    · refine Ev.pos (by simp (disch := omega) only [up_s, up_k, up_j, mm_neg, mm_def, ni_lt, ni_le, ni_eq, ni_mm, mm_ni, ni_lt_mm, ni_le_mm, mm_lt_ni, mm_le_ni, mm_lt_mm, mm_le_mm, ni_cl, ni_in, nI_add, ni_mul, ni_div, ni_rem, ni_rem2, fr_sub, fr_mm, fr_ge0, fr_lt0, fr_inj, l32_0, l32_1, l32_2, l32_3, l32_4, l32_5, l32_6, l32_7, l32_8, l32_9, l32_10, l32_11, l32_12, l32_13, l32_14, l32_15, l32_16, l32_20, l32_24, l32_25, l32_26, l32_31, l32_32, l32_34, l32_35, l32_39, l32_40, l32_44, l32_45, l32_46, l32_47, l32_48, l32_49, l32_57, l32_58, l32_59, l32_63, l32_64, l32_85, l32_90, l32_97, l32_99, l32_100, l32_110, l32_112, l32_122, l32_124, l32_125, l32_255, l32_680, l32_699, l32_700, l32_999, l32_2500, l32_99999, l32_100000, l32_1000000, if_true, if_false, ite_true, ite_false, ce_nm, Option.bind, if_pos, if_neg]; exact hin) (Ev.some ⟨i1, fun v hv => i2 v (by omega)⟩)
    · refine Ev.neg (by simp (disch := omega) only [up_s, up_k, up_j, mm_neg, mm_def, ni_lt, ni_le, ni_eq, ni_mm, mm_ni, ni_lt_mm, ni_le_mm, mm_lt_ni, mm_le_ni, mm_lt_mm, mm_le_mm, ni_cl, ni_in, nI_add, ni_mul, ni_div, ni_rem, ni_rem2, fr_sub, fr_mm, fr_ge0, fr_lt0, fr_inj, l32_0, l32_1, l32_2, l32_3, l32_4, l32_5, l32_6, l32_7, l32_8, l32_9, l32_10, l32_11, l32_12, l32_13, l32_14, l32_15, l32_16, l32_20, l32_24, l32_25, l32_26, l32_31, l32_32, l32_34, l32_35, l32_39, l32_40, l32_44, l32_45, l32_46, l32_47, l32_48, l32_49, l32_57, l32_58, l32_59, l32_63, l32_64, l32_85, l32_90, l32_97, l32_99, l32_100, l32_110, l32_112, l32_122, l32_124, l32_125, l32_255, l32_680, l32_699, l32_700, l32_999, l32_2500, l32_99999, l32_100000, l32_1000000, if_true, if_false, ite_true, ite_false, ce_nm, Option.bind, if_pos, if_neg]; exact hin) (Ev.grd (by simp (disch := omega) only [up_s, up_k, up_j, mm_neg, mm_def, ni_lt, ni_le, ni_eq, ni_mm, mm_ni, ni_lt_mm, ni_le_mm, mm_lt_ni, mm_le_ni, mm_lt_mm, mm_le_mm, ni_cl, ni_in, nI_add, ni_mul, ni_div, ni_rem, ni_rem2, fr_sub, fr_mm, fr_ge0, fr_lt0, fr_inj, l32_0, l32_1, l32_2, l32_3, l32_4, l32_5, l32_6, l32_7, l32_8, l32_9, l32_10, l32_11, l32_12, l32_13, l32_14, l32_15, l32_16, l32_20, l32_24, l32_25, l32_26, l32_31, l32_32, l32_34, l32_35, l32_39, l32_40, l32_44, l32_45, l32_46, l32_47, l32_48, l32_49, l32_57, l32_58, l32_59, l32_63, l32_64, l32_85, l32_90, l32_97, l32_99, l32_100, l32_110, l32_112, l32_122, l32_124, l32_125, l32_255, l32_680, l32_699, l32_700, l32_999, l32_2500, l32_99999, l32_100000, l32_1000000, if_true, if_false, ite_true, ite_false, ce_nm, Option.bind, if_pos, if_neg]) (Ev.nm (Ev.grd (by simp (disch := omega) only [up_s, up_k, up_j, mm_neg, mm_def, ni_lt, ni_le, ni_eq, ni_mm, mm_ni, ni_lt_mm, ni_le_mm, mm_lt_ni, mm_le_ni, mm_lt_mm, mm_le_mm, ni_cl, ni_in, nI_add, ni_mul, ni_div, ni_rem, ni_rem2, fr_sub, fr_mm, fr_ge0, fr_lt0, fr_inj, l32_0, l32_1, l32_2, l32_3, l32_4, l32_5, l32_6, l32_7, l32_8, l32_9, l32_10, l32_11, l32_12, l32_13, l32_14, l32_15, l32_16, l32_20, l32_24, l32_25, l32_26, l32_31, l32_32, l32_34, l32_35, l32_39, l32_40, l32_44, l32_45, l32_46, l32_47, l32_48, l32_49, l32_57, l32_58, l32_59, l32_63, l32_64, l32_85, l32_90, l32_97, l32_99, l32_100, l32_110, l32_112, l32_122, l32_124, l32_125, l32_255, l32_680, l32_699, l32_700, l32_999, l32_2500, l32_99999, l32_100000, l32_1000000, if_true, if_false, ite_true, ite_false, ce_nm, Option.bind, if_pos, if_neg]) (Ev.nm (Ev.some ⟨by omega, nI_1 i, (i1.trans ((up_fr _ _ _ _).wide (by omega) (by omega))).trans ((up_fr _ _ _ _).wide (by omega) (by omega)), fun v hv => ?_⟩)))))
      show hp_up (hp_up h1 84 (nI i).toNatClampNeg (-1)) 85 (nI i).toNatClampNeg (-1) 84 v = mm ∧ hp_up (hp_up h1 84 (nI i).toNatClampNeg (-1)) 85 (nI i).toNatClampNeg (-1) 85 v = mm
      rw [ni_cl (by omega), up_k _ _ _ _ _ _ (by omega)]
      by_cases z : v = i
      · rw [z, up_s, up_s]; exact ⟨rfl, rfl⟩
      · rw [up_j _ _ _ _ _ z, up_j _ _ _ _ _ z, up_k _ _ _ _ _ _ (by omega)]
        exact i2 v (by omega)
  · obtain ⟨f1, b1⟩ := hh1
    have go := x_goesOut (F := F) ok ha10 bf hpe tr hF 12 a 0 h1 (c.fr f1 (by omega)) ha10 (Cn.refl _ _) (by rw [bf.1]; omega) (fun _ => rfl) (fun z => absurd rfl z)
    rw [bf.1, bf.2.1] at go
    refine Ev.bind go (fun h2 hh2 => Ev.some ?_)
    obtain ⟨lo, la⟩ := hh2
    refine ⟨f1.trans lo.1, fun v hv => ?_⟩
    obtain ⟨l1, l2, l3⟩ := bf.2.2.2.1 v hv
    by_cases z : Cn (og m) a v
    · obtain ⟨z1, z2⟩ := la v hv (Dn_all g hpe (hp v) v (Nat.le_refl _) hv z)
      have z3 := (bf.2.2.1 v hv).mpr z
      rw [z1, z2, fr_p (by have := l3 z3; omega), fr_p (by omega)]
      exact ⟨rfl, rfl⟩
    · have z3 : hp v = 0 := by
        apply Classical.byContradiction
        intro y
        exact z ((bf.2.2.1 v hv).mp y)
      have z4 : dy v = 0 := by rw [z3] at l2; omega
      rw [z3, z4]
      rcases lo.2 v hv with y | y
      · rw [y.1, y.2]; exact b1 v hv
      · exact absurd z3 y.1
theorem bf_uniq {m : Nat → Nat} {a : Nat} {hp dy hp' dy' : Nat → Nat} (ok : OkG m) (ha : a < m 2) (tr : ¬ sz (og m) a ≤ cb (og m) a) (bf : Bf m (og m) a hp dy) (bf' : Bf m (og m) a hp' dy') : ∀ v, v < 10 → dy v = dy' v ∧ hp v = hp' v := by
  obtain ⟨h0, e0⟩ : ∃ h : Hp, h = fun _ j => nI (m j) := ⟨_, rfl⟩
  have c : MN h0 m := by rw [e0]; exact fun _ _ => rfl
  obtain ⟨r1, q1, -, s1⟩ := x_laysWays (F := 1000) ok c ha bf tr (Nat.le_refl _)
  obtain ⟨r2, q2, -, s2⟩ := x_laysWays (F := 1000) ok c ha bf' tr (Nat.le_refl _)
  rw [q1] at q2
  cases q2
  intro v hv
  obtain ⟨a1, a2⟩ := s1 v hv
  obtain ⟨b1, b2⟩ := s2 v hv
  have l := bf.2.2.2.1 v hv
  have l' := bf'.2.2.2.1 v hv
  rw [a1, fr_inj (by omega) (by omega)] at b1
  rw [a2, fr_inj (by omega) (by omega)] at b2
  exact ⟨b1, b2⟩

def mx (f : Nat → Nat) : Nat → Nat
  | 0 => 0
  | n + 1 => max (mx f n) (f n)
theorem mx_le {f : Nat → Nat} {n b : Nat} (h : ∀ i, i < n → f i ≤ b) : mx f n ≤ b := by
  induction n with
  | zero => exact Nat.zero_le _
  | succ n ih =>
    have h1 := ih (fun i hi => h i (by omega))
    have h2 := h n (by omega)
    show max (mx f n) (f n) ≤ b
    omega
theorem le_mx {f : Nat → Nat} {n i : Nat} (hi : i < n) : f i ≤ mx f n := by
  induction n with
  | zero => omega
  | succ n ih =>
    show f i ≤ max (mx f n) (f n)
    by_cases z : i = n
    · rw [z]; omega
    · have := ih (by omega)
      omega
theorem mx_congr {f g : Nat → Nat} {n : Nat} (h : ∀ i, i < n → f i = g i) : mx f n = mx g n := by
  induction n with
  | zero => rfl
  | succ n ih =>
    show max (mx f n) (f n) = max (mx g n) (g n)
    rw [ih (fun i hi => h i (by omega)), h n (by omega)]
/-- the farthest of a walk's labels -/
def ec (dy : Nat → Nat) : Nat := mx (fun w => dy w - 1) 10
theorem Bf.dy_lt {m o : Nat → Nat} {a : Nat} {hp dy : Nat → Nat} (bf : Bf m o a hp dy) {v : Nat} (hv : v < 10) : dy v ≤ 200 := by
  have := bf.2.2.2.1 v hv
  omega
theorem ec_le {m o : Nat → Nat} {a : Nat} {hp dy : Nat → Nat} (bf : Bf m o a hp dy) : ec dy ≤ 200 := mx_le (fun i hi => by have := bf.dy_lt hi; omega)
theorem max_fr {x d : Nat} (hx : x < 1000) (hd : d < 1000) : (if nI x < fr d then fr d else nI x) = nI (max x (d - 1)) := by
  by_cases z : d = 0
  · rw [z, fr_0, if_neg (by rw [ni_lt_mm (by omega)]; exact id)]
    congr 1
    omega
  · rw [fr_p (by omega), ni_max (by omega) (by omega)]
/-- Walk.farthest -/
theorem x_cfar {m o : Nat → Nat} {a s F : Nat} {h : Hp} {q hp dy : Nat → Nat} (B : Bs h s q hp dy) (bf : Bf m o a hp dy) (hF : 1000 ≤ F) : f10_farthest F h = some (nI (ec dy), h) := by
  obtain ⟨b1, b2, b3, b4, b5, b6, b7⟩ := id B
  have ev : Ev (f10_farthest F h) (fun r => r = (nI (mx (fun i => dy (q i) - 1) s), h)) := by
    unfold f10_farthest
    refine Ev.bind (P := fun o => o = (nI (mx (fun i => dy (q i) - 1) s), h)) ?_ (fun o ho => Ev.some (by rw [ho]))
    refine Ev.it (I := fun i st => i ≤ s ∧ st = (nI (mx (fun i => dy (q i) - 1) i), nI i, h)) _ 10 ?_ F 0 _ (by omega) (by omega) ⟨by omega, rfl⟩
    rintro i st hi ⟨his, rfl⟩
    show Ev (f10_farthest_b4 F (nI (mx (fun i => dy (q i) - 1) i)) (nI i) h) _
    unfold f10_farthest_b4
    by_cases hin : s ≤ i
    · refine Ev.pos (by simp (disch := omega) only [up_s, up_k, up_j, mm_neg, mm_def, ni_lt, ni_le, ni_eq, ni_mm, mm_ni, ni_lt_mm, ni_le_mm, mm_lt_ni, mm_le_ni, mm_lt_mm, mm_le_mm, ni_cl, ni_in, nI_add, ni_mul, ni_div, ni_rem, ni_rem2, fr_sub, fr_mm, fr_ge0, fr_lt0, fr_inj, l32_0, l32_1, l32_2, l32_3, l32_4, l32_5, l32_6, l32_7, l32_8, l32_9, l32_10, l32_11, l32_12, l32_13, l32_14, l32_15, l32_16, l32_20, l32_24, l32_25, l32_26, l32_31, l32_32, l32_34, l32_35, l32_39, l32_40, l32_44, l32_45, l32_46, l32_47, l32_48, l32_49, l32_57, l32_58, l32_59, l32_63, l32_64, l32_85, l32_90, l32_97, l32_99, l32_100, l32_110, l32_112, l32_122, l32_124, l32_125, l32_255, l32_680, l32_699, l32_700, l32_999, l32_2500, l32_99999, l32_100000, l32_1000000, if_true, if_false, ite_true, ite_false, ce_nm, Option.bind, if_pos, if_neg, b1]; exact hin) (Ev.some ?_)
      have : i = s := by omega
      rw [this]
    · obtain ⟨d1, d2⟩ := b3 i (by omega)
      have e1 := (b4 (q i) d2).2
      have l1 := bf.dy_lt d2
      have l2 : mx (fun i => dy (q i) - 1) i ≤ 200 := mx_le (fun j hj => by have := bf.dy_lt (b3 j (by omega)).2; omega)
      refine Ev.neg (by simp (disch := omega) only [up_s, up_k, up_j, mm_neg, mm_def, ni_lt, ni_le, ni_eq, ni_mm, mm_ni, ni_lt_mm, ni_le_mm, mm_lt_ni, mm_le_ni, mm_lt_mm, mm_le_mm, ni_cl, ni_in, nI_add, ni_mul, ni_div, ni_rem, ni_rem2, fr_sub, fr_mm, fr_ge0, fr_lt0, fr_inj, l32_0, l32_1, l32_2, l32_3, l32_4, l32_5, l32_6, l32_7, l32_8, l32_9, l32_10, l32_11, l32_12, l32_13, l32_14, l32_15, l32_16, l32_20, l32_24, l32_25, l32_26, l32_31, l32_32, l32_34, l32_35, l32_39, l32_40, l32_44, l32_45, l32_46, l32_47, l32_48, l32_49, l32_57, l32_58, l32_59, l32_63, l32_64, l32_85, l32_90, l32_97, l32_99, l32_100, l32_110, l32_112, l32_122, l32_124, l32_125, l32_255, l32_680, l32_699, l32_700, l32_999, l32_2500, l32_99999, l32_100000, l32_1000000, if_true, if_false, ite_true, ite_false, ce_nm, Option.bind, if_pos, if_neg, b1]; exact hin) (Ev.neg (by simp (disch := omega) only [up_s, up_k, up_j, mm_neg, mm_def, ni_lt, ni_le, ni_eq, ni_mm, mm_ni, ni_lt_mm, ni_le_mm, mm_lt_ni, mm_le_ni, mm_lt_mm, mm_le_mm, ni_cl, ni_in, nI_add, ni_mul, ni_div, ni_rem, ni_rem2, fr_sub, fr_mm, fr_ge0, fr_lt0, fr_inj, l32_0, l32_1, l32_2, l32_3, l32_4, l32_5, l32_6, l32_7, l32_8, l32_9, l32_10, l32_11, l32_12, l32_13, l32_14, l32_15, l32_16, l32_20, l32_24, l32_25, l32_26, l32_31, l32_32, l32_34, l32_35, l32_39, l32_40, l32_44, l32_45, l32_46, l32_47, l32_48, l32_49, l32_57, l32_58, l32_59, l32_63, l32_64, l32_85, l32_90, l32_97, l32_99, l32_100, l32_110, l32_112, l32_122, l32_124, l32_125, l32_255, l32_680, l32_699, l32_700, l32_999, l32_2500, l32_99999, l32_100000, l32_1000000, if_true, if_false, ite_true, ite_false, ce_nm, Option.bind, if_pos, if_neg]; omega) (Ev.grd (by simp (disch := omega) only [up_s, up_k, up_j, mm_neg, mm_def, ni_lt, ni_le, ni_eq, ni_mm, mm_ni, ni_lt_mm, ni_le_mm, mm_lt_ni, mm_le_ni, mm_lt_mm, mm_le_mm, ni_cl, ni_in, nI_add, ni_mul, ni_div, ni_rem, ni_rem2, fr_sub, fr_mm, fr_ge0, fr_lt0, fr_inj, l32_0, l32_1, l32_2, l32_3, l32_4, l32_5, l32_6, l32_7, l32_8, l32_9, l32_10, l32_11, l32_12, l32_13, l32_14, l32_15, l32_16, l32_20, l32_24, l32_25, l32_26, l32_31, l32_32, l32_34, l32_35, l32_39, l32_40, l32_44, l32_45, l32_46, l32_47, l32_48, l32_49, l32_57, l32_58, l32_59, l32_63, l32_64, l32_85, l32_90, l32_97, l32_99, l32_100, l32_110, l32_112, l32_122, l32_124, l32_125, l32_255, l32_680, l32_699, l32_700, l32_999, l32_2500, l32_99999, l32_100000, l32_1000000, if_true, if_false, ite_true, ite_false, ce_nm, Option.bind, if_pos, if_neg]) ?_))
      rw [ni_cl (by omega), d1]
      refine Ev.grd (by simp (disch := omega) only [up_s, up_k, up_j, mm_neg, mm_def, ni_lt, ni_le, ni_eq, ni_mm, mm_ni, ni_lt_mm, ni_le_mm, mm_lt_ni, mm_le_ni, mm_lt_mm, mm_le_mm, ni_cl, ni_in, nI_add, ni_mul, ni_div, ni_rem, ni_rem2, fr_sub, fr_mm, fr_ge0, fr_lt0, fr_inj, l32_0, l32_1, l32_2, l32_3, l32_4, l32_5, l32_6, l32_7, l32_8, l32_9, l32_10, l32_11, l32_12, l32_13, l32_14, l32_15, l32_16, l32_20, l32_24, l32_25, l32_26, l32_31, l32_32, l32_34, l32_35, l32_39, l32_40, l32_44, l32_45, l32_46, l32_47, l32_48, l32_49, l32_57, l32_58, l32_59, l32_63, l32_64, l32_85, l32_90, l32_97, l32_99, l32_100, l32_110, l32_112, l32_122, l32_124, l32_125, l32_255, l32_680, l32_699, l32_700, l32_999, l32_2500, l32_99999, l32_100000, l32_1000000, if_true, if_false, ite_true, ite_false, ce_nm, Option.bind, if_pos, if_neg]) (Ev.some ⟨by omega, by omega, ?_⟩)
      rw [ni_cl (by omega), e1, max_fr (by omega) (by omega), show nI i + 1 = nI (i + 1) from nI_1 i]
      rfl
  have hmx : mx (fun i => dy (q i) - 1) s = ec dy := by
    apply Nat.le_antisymm
    · exact mx_le (fun i hi => le_mx (f := fun w => dy w - 1) (n := 10) (i := q i) (b3 i hi).2)
    · refine mx_le (n := 10) (f := fun w => dy w - 1) (fun v hv => ?_)
      by_cases z : hp v = 0
      · have := (b7 v hv).2.1
        rw [z] at this
        omega
      · obtain ⟨i, i1, i2⟩ := (b6 v hv).mp z
        have := le_mx (f := fun i => dy (q i) - 1) (n := s) (i := i) i1
        rw [i2] at this
        exact this
  obtain ⟨r, e, er⟩ := ev
  rw [e, er, hmx]
/-- the reference's farthest -/
theorem x_mfar {m : Nat → Nat} {a F : Nat} {h : Hp} {hp dy : Nat → Nat} (ok : OkG m) (c : MN h m) (ha : a < m 2) (bf : Bf m (og m) a hp dy) (tr : ¬ sz (og m) a ≤ cb (og m) a) (hF : 1000 ≤ F) : Ev (f12_farthest F (nI a) h) (fun r => r.1 = nI (ec dy) ∧ Fr 84 85 h r.2) := by
  have h2 := ok.2.1
  unfold f12_farthest
  refine Ev.bind (x_laysWays ok c ha bf tr hF) (fun h1 hh1 => ?_)
  obtain ⟨f1, w1⟩ := hh1
  have c2 : h1 69 2 = nI (m 2) := c.fr f1 (by omega) 2 (by omega)
  have hm2 : mx (fun w => dy w - 1) (m 2) = ec dy := by
    apply Nat.le_antisymm
    · exact mx_le (fun i hi => le_mx (f := fun w => dy w - 1) (n := 10) (i := i) (by omega))
    · refine mx_le (n := 10) (f := fun w => dy w - 1) (fun v hv => ?_)
      by_cases z : v < m 2
      · exact le_mx (f := fun w => dy w - 1) (n := m 2) (i := v) z
      · have z1 : hp v = 0 := by
          apply Classical.byContradiction
          intro y
          have := cn_lt ok ((bf.2.2.1 v hv).mp y) ha
          omega
        have := (bf.2.2.2.1 v hv).2.1
        rw [z1] at this
        omega
  refine Ev.bind (P := fun o => o = (nI (ec dy), h1)) ?_ (fun o ho => Ev.some (by rw [ho]; exact ⟨rfl, f1⟩))
  refine Ev.it (I := fun i st => st = (nI (mx (fun w => dy w - 1) i), nI i, h1)) _ (m 2) ?_ F 0 _ (by omega) (by omega) rfl
  rintro i st hi rfl
  show Ev (f12_farthest_b9 F (nI (mx (fun w => dy w - 1) i)) (nI i) h1) _
  unfold f12_farthest_b9
  by_cases hin : m 2 ≤ i
  · refine Ev.pos (by simp (disch := omega) only [up_s, up_k, up_j, mm_neg, mm_def, ni_lt, ni_le, ni_eq, ni_mm, mm_ni, ni_lt_mm, ni_le_mm, mm_lt_ni, mm_le_ni, mm_lt_mm, mm_le_mm, ni_cl, ni_in, nI_add, ni_mul, ni_div, ni_rem, ni_rem2, fr_sub, fr_mm, fr_ge0, fr_lt0, fr_inj, l32_0, l32_1, l32_2, l32_3, l32_4, l32_5, l32_6, l32_7, l32_8, l32_9, l32_10, l32_11, l32_12, l32_13, l32_14, l32_15, l32_16, l32_20, l32_24, l32_25, l32_26, l32_31, l32_32, l32_34, l32_35, l32_39, l32_40, l32_44, l32_45, l32_46, l32_47, l32_48, l32_49, l32_57, l32_58, l32_59, l32_63, l32_64, l32_85, l32_90, l32_97, l32_99, l32_100, l32_110, l32_112, l32_122, l32_124, l32_125, l32_255, l32_680, l32_699, l32_700, l32_999, l32_2500, l32_99999, l32_100000, l32_1000000, if_true, if_false, ite_true, ite_false, ce_nm, Option.bind, if_pos, if_neg, c2]; exact hin) (Ev.some ?_)
    have : i = m 2 := by omega
    rw [this, hm2]
  · refine Ev.neg (by simp (disch := omega) only [up_s, up_k, up_j, mm_neg, mm_def, ni_lt, ni_le, ni_eq, ni_mm, mm_ni, ni_lt_mm, ni_le_mm, mm_lt_ni, mm_le_ni, mm_lt_mm, mm_le_mm, ni_cl, ni_in, nI_add, ni_mul, ni_div, ni_rem, ni_rem2, fr_sub, fr_mm, fr_ge0, fr_lt0, fr_inj, l32_0, l32_1, l32_2, l32_3, l32_4, l32_5, l32_6, l32_7, l32_8, l32_9, l32_10, l32_11, l32_12, l32_13, l32_14, l32_15, l32_16, l32_20, l32_24, l32_25, l32_26, l32_31, l32_32, l32_34, l32_35, l32_39, l32_40, l32_44, l32_45, l32_46, l32_47, l32_48, l32_49, l32_57, l32_58, l32_59, l32_63, l32_64, l32_85, l32_90, l32_97, l32_99, l32_100, l32_110, l32_112, l32_122, l32_124, l32_125, l32_255, l32_680, l32_699, l32_700, l32_999, l32_2500, l32_99999, l32_100000, l32_1000000, if_true, if_false, ite_true, ite_false, ce_nm, Option.bind, if_pos, if_neg, c2]; exact hin) (Ev.grd (by simp (disch := omega) only [up_s, up_k, up_j, mm_neg, mm_def, ni_lt, ni_le, ni_eq, ni_mm, mm_ni, ni_lt_mm, ni_le_mm, mm_lt_ni, mm_le_ni, mm_lt_mm, mm_le_mm, ni_cl, ni_in, nI_add, ni_mul, ni_div, ni_rem, ni_rem2, fr_sub, fr_mm, fr_ge0, fr_lt0, fr_inj, l32_0, l32_1, l32_2, l32_3, l32_4, l32_5, l32_6, l32_7, l32_8, l32_9, l32_10, l32_11, l32_12, l32_13, l32_14, l32_15, l32_16, l32_20, l32_24, l32_25, l32_26, l32_31, l32_32, l32_34, l32_35, l32_39, l32_40, l32_44, l32_45, l32_46, l32_47, l32_48, l32_49, l32_57, l32_58, l32_59, l32_63, l32_64, l32_85, l32_90, l32_97, l32_99, l32_100, l32_110, l32_112, l32_122, l32_124, l32_125, l32_255, l32_680, l32_699, l32_700, l32_999, l32_2500, l32_99999, l32_100000, l32_1000000, if_true, if_false, ite_true, ite_false, ce_nm, Option.bind, if_pos, if_neg]) (Ev.some ⟨by omega, ?_⟩))
    have e1 := (w1 i (by omega)).1
    have l1 := bf.dy_lt (v := i) (by omega)
    have l2 : mx (fun w => dy w - 1) i ≤ 200 := mx_le (fun j hj => by have := bf.dy_lt (v := j) (by omega); omega)
    rw [ni_cl (by omega), e1, max_fr (by omega) (by omega), show nI i + 1 = nI (i + 1) from nI_1 i]
    rfl
