-- spare
theorem Bf_tr {m m' o o' : Nat → Nat} {a : Nat} {hp dy : Nat → Nat} (hC : ∀ v, v < 10 → (Cn o' a v ↔ Cn o a v)) (hE : ∀ e, e < 40 → o e ≠ 0 → Cn o a (e / 4) → o' e = o e ∧ m' (85 + e) = m (85 + e)) (h1 : m' 1 = m 1) (bf : Bf m o a hp dy) : Bf m' o' a hp dy := by
  obtain ⟨b1, b2, b3, b4, b5⟩ := bf
  refine ⟨b1, b2, fun v hv => (b3 v hv).trans (hC v hv).symm, b4, fun w hw h0 hn => ?_⟩
  obtain ⟨e, e1, e2, e3, e4, e5, e6⟩ := b5 w hw h0 hn
  obtain ⟨q1, q2⟩ := hE e e1 e2 ((b3 (e / 4) (by omega)).mp e4)
  refine ⟨e, e1, by rw [q1]; exact e2, by rw [q1]; exact e3, e4, e5, ?_⟩
  rw [h1, q2]
  exact e6
noncomputable def gp (m : Nat → Nat) (v : Nat) : Nat := (2 * Lg m v + 12) / 8
theorem x_mgap {m : Nat → Nat} {v F : Nat} {h : Hp} (ok : OkG m) (c : MN h m) (hv : v < m 2) (tr : ¬ sz (og m) v ≤ cb (og m) v) (hF : 1000 ≤ F) : Ev (f12_gapOf F (nI v) h) (fun o => o.1 = nI (gp m v) ∧ Fr 75 85 h o.2) := by
  have lb := Lg_le ok hv tr
  unfold f12_gapOf
  refine Ev.bind (x_mlong (E := Ec m) ok c hv tr (Ec_bus ok hv tr) hF) (fun o ho => Ev.some ⟨?_, ho.2⟩)
  have hl : o.1 = nI (Lg m v) := ho.1
  dsimp only
  rw [hl, l32_2, ni_mul, l32_5, nI_add, l32_7, nI_add, l32_8, ni_div (by omega) (by omega) (by omega)]
  rfl
theorem gp_le {m : Nat → Nat} {v : Nat} (ok : OkG m) (hv : v < m 2) (tr : ¬ sz (og m) v ≤ cb (og m) v) : gp m v ≤ 60 := by
  have lb := Lg_le ok hv tr
  unfold gp
  omega
noncomputable def spU (m : Nat → Nat) (v e X : Nat) : Bool := bo (sz (og (ctm m e)) v = sz (og m) v ∧ ¬ sz (og (ctm m e)) v ≤ cb (og (ctm m e)) v ∧ gp (ctm m e) v < X)
theorem x_sparestep {m : Nat → Nat} {v e X F : Nat} {h : Hp} {x2 : Int32} (ok : OkG m) (c : MN h m) (hv : v < m 2) (he : e < 40) (h0 : og m e ≠ 0) (hl : e < og m e - 1) (hX : X ≤ 1000000) (hF : 1000 ≤ F) :
    Ev (f12_spare_b42 F (nI v) (nI (sz (og m) v)) x2 (nI X) (nI e) h) (fun o => ∃ h', o = .inl (if spU m v e X = true then nI (10 * (e / 4) + e % 4) else x2, nI (if spU m v e X = true then gp (ctm m e) v else X), nI (e + 1), h') ∧ Fr 75 85 h h') := by
  have g := ok.2.2.2.1
  obtain ⟨g1, g2, g3⟩ := g e he h0
  obtain ⟨k1, k2, k3, k4, k5⟩ := ok_ctm ok he h0
  have e85 : (85 : Int32) + nI e = nI (85 + e) := by rw [l32_85, nI_add]
  have hv' : v < ctm m e 2 := by rw [k2]; exact hv
  have nxt : nI e + 1 = nI (e + 1) := nI_1 _
  have s10 : sz (og m) v ≤ 10 := ct_le _ _
  have s10' : sz (og (ctm m e)) v ≤ 10 := ct_le _ _
  unfold f12_spare_b42
  refine Ev.neg (by simp (disch := omega) only [up_s, up_k, up_j, mm_neg, mm_def, ni_lt, ni_le, ni_eq, ni_mm, mm_ni, ni_lt_mm, ni_le_mm, mm_lt_ni, mm_le_ni, mm_lt_mm, mm_le_mm, ni_cl, ni_in, nI_add, ni_mul, ni_div, ni_rem, ni_rem2, fr_sub, fr_mm, fr_ge0, fr_lt0, fr_inj, l32_0, l32_1, l32_2, l32_3, l32_4, l32_5, l32_6, l32_7, l32_8, l32_9, l32_10, l32_11, l32_12, l32_13, l32_14, l32_15, l32_16, l32_20, l32_24, l32_25, l32_26, l32_31, l32_32, l32_34, l32_35, l32_39, l32_40, l32_44, l32_45, l32_46, l32_47, l32_48, l32_49, l32_57, l32_58, l32_59, l32_63, l32_64, l32_85, l32_90, l32_97, l32_99, l32_100, l32_110, l32_112, l32_122, l32_124, l32_125, l32_255, l32_680, l32_699, l32_700, l32_999, l32_2500, l32_99999, l32_100000, l32_1000000, if_true, if_false, ite_true, ite_false, ce_nm, Option.bind, if_pos, if_neg]; omega) ?_
  rw [x_otherN c he h0]
  refine ev_bs (Ev.pos (by rw [ni_le (by omega) (by omega)]; omega) ?_)
  dsimp only
  rw [e85]
  refine Ev.grd (ni_in (by omega) (by omega)) ?_
  rw [ni_cl (by omega), c _ (by omega)]
  refine Ev.bind (x_takes g c he h0) (fun h1 hh1 => ?_)
  obtain ⟨f1, c1⟩ := hh1
  refine Ev.bind (x_sizeOf k1 c1 hv' hF) (fun o ho => ?_)
  obtain ⟨o1, f2, -⟩ := ho
  have f2w : Fr 75 85 h1 o.2 := f2.wide (by omega) (by omega)
  have lay : ∀ h5, Fr 75 85 h1 h5 → ∀ (G : Hp → Option ((Int32 × Int32 × Int32 × Hp) ⊕ (Int32 × Hp))) (Q : ((Int32 × Int32 × Int32 × Hp) ⊕ (Int32 × Hp)) → Prop), (∀ h6, Fr 75 85 h h6 → Ev (G h6) Q) → Ev (Option.bind (f12_lays F (nI e) (nI (og m e - 1)) (nI (m (85 + e))) h5) G) Q := fun h5 f5 G Q k => Ev.bind (x_lays (c1.fr f5 (by omega)) he (by omega) (fun q => g3 (by rw [← q]))) (fun h6 hh6 => k h6 (cut_frame f1 f5 (by omega) hh6.1 c (hh6.2.eqv (lym_ctm ok he h0))))
  by_cases z1 : sz (og (ctm m e)) v = sz (og m) v
  · refine Ev.pos (by rw [o1, z1]) (Ev.bind (x_isLoop k1 (c1.fr f2 (by omega)) hv' hF) (fun p hp => ?_))
    obtain ⟨p1, f3, -⟩ := hp
    have f3w : Fr 75 85 h1 p.2 := f2w.trans (f3.wide (by omega) (by omega))
    by_cases z2 : sz (og (ctm m e)) v ≤ cb (og (ctm m e)) v
    · have u : spU m v e X = false := bo_f (fun q => q.2.1 z2)
      refine Ev.neg (by rw [p1, if_pos z2]; decide) (lay p.2 f3w _ _ (fun h6 f6 => Ev.some ⟨h6, ?_, f6⟩))
      rw [u, nxt]
      rfl
    · have gl := gp_le k1 hv' z2
      refine Ev.pos (by rw [p1, if_neg z2]; rfl) (Ev.bind (x_mgap k1 (c1.fr f3w (by omega)) hv' z2 hF) (fun q hq => ?_))
      have f4w := f3w.trans hq.2
      by_cases z3 : X ≤ gp (ctm m e) v
      · have u : spU m v e X = false := bo_f (fun w => by have := w.2.2; omega)
        refine Ev.pos (by rw [hq.1, ni_le (by omega) (by omega)]; exact z3) (lay q.2 f4w _ _ (fun h6 f6 => Ev.some ⟨h6, ?_, f6⟩))
        rw [u, nxt]
        rfl
      · have u : spU m v e X = true := bo_p ⟨z1, z2, by omega⟩
        refine Ev.neg (by rw [hq.1, ni_le (by omega) (by omega)]; exact z3) (Ev.bind (x_mgap k1 (c1.fr f4w (by omega)) hv' z2 hF) (fun w hw => ?_))
        refine lay w.2 (f4w.trans hw.2) _ _ (fun h6 f6 => Ev.some ⟨h6, ?_, f6⟩)
        rw [u, nxt, hw.1, if_pos rfl, if_pos rfl, l32_4, l32_10, ni_div (by omega) (by omega) (by omega), ni_rem (by omega) (by omega) (by omega), ni_mul, nI_add]
  · have u : spU m v e X = false := bo_f (fun q => z1 q.1)
    refine Ev.neg (by rw [o1, ni_eq (by omega) (by omega)]; exact z1) (lay o.2 f2w _ _ (fun h6 f6 => Ev.some ⟨h6, ?_, f6⟩))
    rw [u, nxt]
    rfl
/-- what the cut leaves of the bus of v -/
theorem sp_cases {m : Nat → Nat} (ok : OkG m) {v e : Nat} (hv : v < m 2) (he : e < 40) (h0 : og m e ≠ 0) : (¬ Cn (og m) v (e / 4) ∧ sz (og (ctm m e)) v = sz (og m) v ∧ cb (og (ctm m e)) v = cb (og m) v) ∨ (Cn (og m) v (e / 4) ∧ ¬ Cn (cu (og m) (e + 1)) (e / 4) ((og m e - 1) / 4) ∧ sz (og (ctm m e)) v ≠ sz (og m) v) ∨ (Cn (og m) v (e / 4) ∧ Cn (cu (og m) (e + 1)) (e / 4) ((og m e - 1) / 4) ∧ sz (og (ctm m e)) v = sz (og m) v ∧ cb (og (ctm m e)) v + 1 = cb (og m) v) := by
  have g := ok.2.2.2.1
  have oc := og_ctm ok he h0
  rw [o_sz oc, o_cb oc]
  by_cases z : Cn (og m) v (e / 4)
  · by_cases y : Cn (cu (og m) (e + 1)) (e / 4) ((og m e - 1) / 4)
    · exact Or.inr (Or.inr ⟨z, y, cu_szeq g he h0 (Or.inl y), cu_cb1 g he h0 y z⟩)
    · exact Or.inr (Or.inl ⟨z, y, by have := cu_szlt g he h0 y z; omega⟩)
  · exact Or.inl ⟨z, cu_szeq g he h0 (Or.inr z), cu_cbeq g he h0 z⟩
/-- elsewhere cut: the ways of the bus stay -/
theorem gp_else {m : Nat → Nat} (ok : OkG m) {v e : Nat} (hv : v < m 2) (he : e < 40) (h0 : og m e ≠ 0) (tr : ¬ sz (og m) v ≤ cb (og m) v) (na : ¬ Cn (og m) v (e / 4)) : gp (ctm m e) v = gp m v := by
  have g := ok.2.2.2.1
  obtain ⟨g1, g2, g3⟩ := g e he h0
  obtain ⟨k1, k2, k3, k4, k5⟩ := ok_ctm ok he h0
  have oc := og_ctm ok he h0
  have hc : ∀ b, Cn (og (ctm m e)) v b ↔ Cn (og m) v b := fun b => (o_cn oc v b).trans (cu_sz g he h0 (Or.inr na) b)
  have tr' : ¬ sz (og (ctm m e)) v ≤ cb (og (ctm m e)) v := by
    rw [o_sz oc, o_cb oc, cu_szeq g he h0 (Or.inr na), cu_cbeq g he h0 na]
    exact tr
  have hE : Lg (ctm m e) v = Lg m v := mx_congr (fun w hw => by
    have e1 : bo (Cn (og (ctm m e)) v w) = bo (Cn (og m) v w) := congrArg bo (propext (hc w))
    rw [e1]
    by_cases z : Cn (og m) v w
    · rw [bo_p z, if_pos rfl, if_pos rfl]
      have w2 := cn_lt ok z hv
      obtain ⟨hp, dy, bf⟩ := bf0 ok w2
      have naw : ¬ Cn (og m) w (e / 4) := fun q => na (z.trans q)
      have bf' : Bf (ctm m e) (og (ctm m e)) w hp dy := Bf_tr (fun x _ => (o_cn oc w x).trans (cu_sz g he h0 (Or.inr naw) x)) (fun i hi hn hci => by
        have n1 : i ≠ e := fun q => by rw [q] at hci; exact naw hci
        have n2 : i ≠ og m e - 1 := fun q => by
          rw [q] at hci
          have := Cn.step (o := og m) (a := w) (e := og m e - 1) (by omega) (by rw [g2]; omega) hci
          rw [g2] at this
          exact naw this
        have q1 : og (ctm m e) i = og m i := by rw [oc i hi, cu_v g he h0 i hi, if_neg (by omega)]
        exact ⟨q1, (k5 i hi (by rw [q1]; exact hn)).2⟩) k3 bf
      rw [← Ec_of ok w2 (tr_cn g z tr) hp dy bf]
      exact (Ec_of k1 (by rw [k2]; exact w2) (tr_cn k1.2.2.2.1 ((hc w).mpr z) tr') hp dy bf').symm
    · rw [bo_f z, if_neg (by simp), if_neg (by simp)])
  unfold gp
  rw [hE]
noncomputable def spq (m : Nat → Nat) (v : Nat) : Nat → Bool := fun e => bo (og m e ≠ 0 ∧ e < og m e - 1 ∧ Cn (og m) v (e / 4) ∧ Cn (cu (og m) (e + 1)) (e / 4) ((og m e - 1) / 4))
theorem x_cgap {m : Nat → Nat} {v e kn F : Nat} {h : Hp} (ok : OkG m) (cs : CS h kn m) (hv : v < m 2) (he : e < 40) (h0 : og m e ≠ 0) (ha : Cn (og m) v (e / 4)) (nbr : Cn (cu (og m) (e + 1)) (e / 4) ((og m e - 1) / 4)) (eq : cb (og m) v = sz (og m) v) (hF : 1000 ≤ F) : Ev (f11_longestWithout F (nI v) (nI e) h) (fun o => o.1 = nI (Lg (ctm m e) v) ∧ Fr 40 43 h o.2) ∧ ¬ sz (og (ctm m e)) v ≤ cb (og (ctm m e)) v := by
  have g := ok.2.2.2.1
  obtain ⟨k1, k2, k3, k4, k5⟩ := ok_ctm ok he h0
  have oc := og_ctm ok he h0
  have tr' : ¬ sz (og (ctm m e)) v ≤ cb (og (ctm m e)) v := by
    rw [o_sz oc, o_cb oc, cu_szeq g he h0 (Or.inl nbr)]
    have := cu_cb1 g he h0 nbr ha
    omega
  refine ⟨?_, tr'⟩
  have hc : ∀ a b, Cn (og (ctm m e)) a b ↔ Cn (og m) a b := fun a b => (o_cn oc a b).trans (cu_sz g he h0 (Or.inl nbr) b)
  have L := x_clong (E := Ec (ctm m e)) (lx := e + 1) ok cs hv (by omega) (fun w hw z hp dy bf => by
    have w2 := cn_lt ok z hv
    have bf' : Bf (ctm m e) (og (ctm m e)) w hp dy := Bf_tr (fun x _ => o_cn oc w x) (fun i hi hn hci => by
      have q1 : og (ctm m e) i = cu (og m) (e + 1) i := oc i hi
      exact ⟨q1, (k5 i hi (by rw [q1]; exact hn)).2⟩) k3 bf
    exact Ec_of k1 (by rw [k2]; exact w2) (tr_cn k1.2.2.2.1 ((hc v w).mpr z) tr') hp dy bf') hF
  rw [fr_s] at L
  have hL : Lg (ctm m e) v = mx (fun w => if bo (Cn (og m) v w) = true then Ec (ctm m e) w else 0) 10 := mx_congr (fun w hw => by
    have e1 : bo (Cn (og (ctm m e)) v w) = bo (Cn (og m) v w) := congrArg bo (propext (hc v w))
    rw [e1])
  rw [hL]
  exact L
