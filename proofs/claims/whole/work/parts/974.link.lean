-- refresh; link and unlink in the class
theorem x_refresh {m : Nat → Nat} {kn F : Nat} {h : Hp} (h02 : h 0 2 = nI kn) (hkn : ce_isNet kn) (on : OkN m) (nr : NetR h kn m) (hF : 1000 ≤ F) : Ev (f11_refresh F h) (fun h' => (∀ c, c < 40 ∨ 64 < c → h' c = h c) ∧ Liv h' m) := by
  have b := net_le hkn
  have h2 := on.1.2.1
  have wl := wtm_le on.2.2.1
  unfold f11_refresh
  refine Ev.nm ?_
  rw [h02, ni_cl (by omega)]
  refine Ev.grd hkn (Ev.bind (x_mark hkn on.1 nr.1 hF) (fun h1 hh1 => ?_))
  obtain ⟨f1, cb1⟩ := hh1
  have n1 := nr.eqv (h' := h1) hkn (fun q hq => f1 q (by omega))
  refine Ev.nm ?_
  rw [f1 0 (by omega), h02, ni_cl (by omega)]
  refine Ev.grd hkn (Ev.bind (x_hold (k := 48) (wt := wtm m) (x := (-1 : Int32)) (Or.inl rfl) hkn on.1 on.2.1 wl on.2.2.1 n1.1 n1.2.2.1 (fun u hu => ⟨n1.2.2.2.2.1 u hu, on.2.2.2.1 u hu⟩) n1.2.2.2.2.2 (fun u hu => ?_) hF) (fun h3 hh3 => ?_))
  · unfold wtm
    have ne : ¬ nI u = (-1 : Int32) := fun q => by rw [mm_def, ni_mm (by omega)] at q; exact q
    by_cases w : m (15 + u) = 0
    · rw [if_pos w, if_pos ⟨w, ne⟩]
    · rw [if_neg w, if_neg (fun q => w q.1)]
  · obtain ⟨f3, cf⟩ := hh3
    have cf' : CF h3 48 m (sM m) (mu (og m) (sM m)) := cf
    have fs := on.fs
    obtain ⟨s', hs'⟩ : ∃ s', s' = sM m := ⟨_, rfl⟩
    rw [← hs'] at cf' fs
    have c3 : CS h3 kn m := by
      refine ⟨by rw [f3 0 (by omega), f1 0 (by omega)]; exact h02, hkn, (n1.eqv (h' := h3) hkn (fun q hq => f3 q (by omega))).1, ?_⟩
      obtain ⟨q1, q2, q3, q4⟩ := cb1
      exact ⟨by rw [f3 44 (by omega)]; exact q1, by rw [f3 44 (by omega)]; exact q2, by rw [f3 45 (by omega)]; exact q3, by rw [f3 46 (by omega), f3 47 (by omega)]; exact q4⟩
    refine Ev.nm ?_
    rw [c3.1, ni_cl (by omega)]
    refine Ev.grd hkn (Ev.bind (x_handOn (k := 48) (P := Pf m s') (R := Rf m s') (Or.inl rfl) on.1 c3 (RT_of fs) (fun v hv => ⟨(cf' v hv).2.1, (cf' v hv).2.2.2⟩) (fun v hv => fs.rle hv) hF) (fun h4 hh4 => Ev.some ⟨fun c hc => ?_, ?_, ?_, ?_⟩))
    · rw [hh4.1 c (by omega), f3 c (by omega), f1 c (by omega)]
    · have q := c3.2.2.2
      exact ⟨by rw [hh4.1 44 (by omega)]; exact q.1, by rw [hh4.1 44 (by omega)]; exact q.2.1, by rw [hh4.1 45 (by omega)]; exact q.2.2.1, by rw [hh4.1 46 (by omega), hh4.1 47 (by omega)]; exact q.2.2.2⟩
    · rw [← hs']
      intro v hv
      rw [hh4.1 (48 + 1) (by omega), hh4.1 (48 + 2) (by omega), hh4.1 (48 + 3) (by omega), hh4.1 (48 + 4) (by omega)]
      exact cf' v hv
    · rw [← hs']
      exact hh4.2
/-- a is b with the cable at e taken out -/
def Pg (a b : Nat → Nat) (e : Nat) : Prop := (∀ i, i < 40 → og a i = cu (og b) (e + 1) i) ∧ (∀ i, i < 40 → og a i ≠ 0 → a (85 + i) = b (85 + i)) ∧ ∀ j, j < 45 → j ≠ 4 → a j = b j
theorem Pg.ctn {a b : Nat → Nat} {e : Nat} (p : Pg a b e) (g : Gr (og b)) (he : e < 40) (h0 : og b e ≠ 0) : ct (fun i => bo (og a i ≠ 0)) 40 + 2 = ct (fun i => bo (og b i ≠ 0)) 40 := by
  obtain ⟨q1, q2, q3⟩ := g e he h0
  have d1 := ct_del (q := fun i => bo (og b i ≠ 0)) (j := e) (n := 40) he (bo_p h0)
  have d2 := ct_del (q := fun i => bo (og b i ≠ 0) && !(i == e)) (j := og b e - 1) (n := 40) (by omega) (by
    have ne : (og b e - 1 == e) = false := by
      have : og b e - 1 ≠ e := fun z => q3 (by rw [z])
      simp [this]
    have t : bo (og b (og b e - 1) ≠ 0) = true := bo_p (by rw [q2]; omega)
    rw [t, ne]
    rfl)
  have e1 : ct (fun i => bo (og a i ≠ 0)) 40 = ct (fun i => (bo (og b i ≠ 0) && !(i == e)) && !(i == og b e - 1)) 40 := ct_congr (fun i hi => by
    have v := p.1 i hi
    rw [cu_v g he h0 i hi] at v
    by_cases z : i = e ∨ i = og b e - 1
    · rw [if_pos z] at v
      have l : bo (og a i ≠ 0) = false := bo_f (fun q => q v)
      rw [l]
      rcases z with z | z
      · simp [z]
      · simp [z]
    · rw [if_neg z] at v
      have n1 : (i == e) = false := by simp; omega
      have n2 : (i == og b e - 1) = false := by simp; omega
      rw [n1, n2, v]
      simp)
  omega
/-- only the cables' cells of a net -/
def FrC (kn : Nat) (h h' : Hp) : Prop := (∀ c, c ≠ kn → c ≠ kn + 5 → c ≠ kn + 6 → h' c = h c) ∧ ∀ j, j ≠ 4 → h' kn j = h kn j
theorem NetR.cab {kn : Nat} {h h' : Hp} {a b : Nat → Nat} (nr : NetR h kn b) (f : FrC kn h h') (hj : ∀ j, j < 45 → j ≠ 4 → a j = b j) (h5 : ∀ e, e < 40 → h' (kn + 5) e = fr (og a e)) (h6 : ∀ e, e < 40 → og a e ≠ 0 → h' (kn + 6) e = nI (a (85 + e))) (h4 : h' kn 4 = nI (ct (fun e => bo (og a e ≠ 0)) 40 / 2)) (hb2 : b 2 ≤ 10) : NetR h' kn a := by
  obtain ⟨⟨c1, c2, c3, c4, c5⟩, n0, n1, n4, n2, cc⟩ := nr
  have a2 : a 2 = b 2 := hj 2 (by omega) (by omega)
  refine ⟨⟨?_, ?_, fun v hv => ?_, h5, h6⟩, ?_, ?_, h4, fun v hv => ?_, fun v hv => ?_⟩
  · rw [f.2 2 (by omega), hj 1 (by omega) (by omega)]; exact c1
  · rw [f.2 3 (by omega), a2]; exact c2
  · rw [a2] at hv
    rw [f.1 (kn + 1) (by omega) (by omega) (by omega), hj (5 + v) (by omega) (by omega)]; exact c3 v hv
  · rw [f.2 0 (by omega), hj 3 (by omega) (by omega)]; exact n0
  · rw [f.2 1 (by omega), hj 0 (by omega) (by omega)]; exact n1
  · rw [a2] at hv
    rw [f.1 (kn + 2) (by omega) (by omega) (by omega), hj (15 + v) (by omega) (by omega)]; exact n2 v hv
  · rw [a2] at hv
    rw [f.1 (kn + 4) (by omega) (by omega) (by omega), f.1 (kn + 3) (by omega) (by omega) (by omega), hj (25 + v) (by omega) (by omega), hj (35 + v) (by omega) (by omega)]
    exact cc v hv
theorem x_unlink {a b : Nat → Nat} {kn e F : Nat} {h : Hp} (nr : NetR h kn b) (ok : OkG b) (he : e < 40) (h0 : og b e ≠ 0) (p : Pg a b e) : Ev (f5_unlink F kn (nI e) h) (fun h' => FrC kn h h' ∧ NetR h' kn a) := by
  have g := ok.2.2.2.1
  obtain ⟨g1, g2, g3⟩ := g e he h0
  have n4 := nr.1.2.2.2.1
  have pc := p.ctn g he h0
  have c40 := ct_le (fun i => bo (og b i ≠ 0)) 40
  have e5 : h (kn + 5) e = nI (og b e - 1) := by rw [n4 e he, fr_p (by omega)]
  unfold f5_unlink
  rw [x_isCabled F kn e (og b e) h he (by omega) (n4 e he), if_neg h0]
  refine ev_bs (Ev.neg (by decide : ¬ (nI 1 : Int32) = 0) (Ev.grd (ni_in (by omega) he) ?_))
  dsimp only
  rw [ni_cl (by omega)]
  refine Ev.grd (by rw [e5]; exact ni_in (by omega) (by omega)) (Ev.nm (Ev.grd (ni_in (by omega) he) (Ev.nm (Ev.nm (Ev.some ?_)))))
  rw [e5, ni_cl (by omega)]
  have fc : FrC kn h (hp_up (hp_up (hp_up h (kn + 5) (og b e - 1) (-1)) (kn + 5) e (-1)) kn 4 ((hp_up (hp_up h (kn + 5) (og b e - 1) (-1)) (kn + 5) e (-1)) kn 4 - 1)) := ⟨fun c q1 q2 q3 => by rw [up_kk _ _ _ _ _ q1, up_kk _ _ _ _ _ q2, up_kk _ _ _ _ _ q2], fun j hj => by rw [up_j _ _ _ _ _ hj, up_k _ _ _ _ _ _ (by omega), up_k _ _ _ _ _ _ (by omega)]⟩
  refine ⟨fc, nr.cab fc p.2.2 (fun i hi => ?_) (fun i hi q => ?_) ?_ ok.2.1⟩
  · rw [up_k _ _ _ _ _ _ (by omega), p.1 i hi, cu_v g he h0 i hi]
    by_cases z : i = e
    · rw [z, up_s, if_pos (Or.inl rfl)]; rfl
    · rw [up_j _ _ _ _ _ z]
      by_cases y : i = og b e - 1
      · rw [y, up_s, if_pos (Or.inr rfl)]; rfl
      · rw [up_j _ _ _ _ _ y, if_neg (by omega)]; exact n4 i hi
  · rw [up_k _ _ _ _ _ _ (by omega), up_k _ _ _ _ _ _ (by omega), up_k _ _ _ _ _ _ (by omega), p.2.1 i hi q]
    refine nr.1.2.2.2.2 i hi (fun w => q ?_)
    rw [p.1 i hi]
    unfold cu
    rw [w]
    simp
  · rw [up_s, up_k _ _ _ _ _ _ (by omega), up_k _ _ _ _ _ _ (by omega), nr.2.2.2.1, l32_1, ni_sub1 (by omega)]
    congr 1
    omega
theorem x_link {a b : Nat → Nat} {kn e w F : Nat} {h : Hp} (nr : NetR h kn a) (okb : OkG b) (he : e < 40) (h0 : og b e ≠ 0) (p : Pg a b e) (hw : b (85 + e) = w) : Ev (f5_link F kn (nI e) (nI (og b e - 1)) (nI w) h) (fun h' => FrC kn h h' ∧ NetR h' kn b) := by
  have g := okb.2.2.2.1
  obtain ⟨g1, g2, g3⟩ := g e he h0
  have n4 := nr.1.2.2.2.1
  have pc := p.ctn g he h0
  have lw := (okb.2.2.2.2 e he h0).2.2.2.2
  have ne : og b e - 1 ≠ e := fun z => g3 (by rw [z])
  unfold f5_link
  refine Ev.neg (by simp (disch := omega) only [up_s, up_k, up_j, mm_neg, mm_def, ni_lt, ni_le, ni_eq, ni_mm, mm_ni, ni_lt_mm, ni_le_mm, mm_lt_ni, mm_le_ni, mm_lt_mm, mm_le_mm, ni_cl, ni_in, nI_add, ni_mul, ni_div, ni_rem, ni_rem2, fr_sub, fr_mm, fr_ge0, fr_lt0, fr_inj, l32_0, l32_1, l32_2, l32_3, l32_4, l32_5, l32_6, l32_7, l32_8, l32_9, l32_10, l32_11, l32_12, l32_13, l32_14, l32_15, l32_16, l32_20, l32_24, l32_25, l32_26, l32_31, l32_32, l32_34, l32_35, l32_39, l32_40, l32_44, l32_45, l32_46, l32_47, l32_48, l32_49, l32_57, l32_58, l32_59, l32_63, l32_64, l32_85, l32_90, l32_97, l32_99, l32_100, l32_110, l32_112, l32_122, l32_124, l32_125, l32_255, l32_680, l32_699, l32_700, l32_999, l32_2500, l32_99999, l32_100000, l32_1000000, if_true, if_false, ite_true, ite_false, ce_nm, Option.bind, if_pos, if_neg]; omega) (Ev.neg (by simp (disch := omega) only [up_s, up_k, up_j, mm_neg, mm_def, ni_lt, ni_le, ni_eq, ni_mm, mm_ni, ni_lt_mm, ni_le_mm, mm_lt_ni, mm_le_ni, mm_lt_mm, mm_le_mm, ni_cl, ni_in, nI_add, ni_mul, ni_div, ni_rem, ni_rem2, fr_sub, fr_mm, fr_ge0, fr_lt0, fr_inj, l32_0, l32_1, l32_2, l32_3, l32_4, l32_5, l32_6, l32_7, l32_8, l32_9, l32_10, l32_11, l32_12, l32_13, l32_14, l32_15, l32_16, l32_20, l32_24, l32_25, l32_26, l32_31, l32_32, l32_34, l32_35, l32_39, l32_40, l32_44, l32_45, l32_46, l32_47, l32_48, l32_49, l32_57, l32_58, l32_59, l32_63, l32_64, l32_85, l32_90, l32_97, l32_99, l32_100, l32_110, l32_112, l32_122, l32_124, l32_125, l32_255, l32_680, l32_699, l32_700, l32_999, l32_2500, l32_99999, l32_100000, l32_1000000, if_true, if_false, ite_true, ite_false, ce_nm, Option.bind, if_pos, if_neg]; omega) (Ev.neg (by simp (disch := omega) only [up_s, up_k, up_j, mm_neg, mm_def, ni_lt, ni_le, ni_eq, ni_mm, mm_ni, ni_lt_mm, ni_le_mm, mm_lt_ni, mm_le_ni, mm_lt_mm, mm_le_mm, ni_cl, ni_in, nI_add, ni_mul, ni_div, ni_rem, ni_rem2, fr_sub, fr_mm, fr_ge0, fr_lt0, fr_inj, l32_0, l32_1, l32_2, l32_3, l32_4, l32_5, l32_6, l32_7, l32_8, l32_9, l32_10, l32_11, l32_12, l32_13, l32_14, l32_15, l32_16, l32_20, l32_24, l32_25, l32_26, l32_31, l32_32, l32_34, l32_35, l32_39, l32_40, l32_44, l32_45, l32_46, l32_47, l32_48, l32_49, l32_57, l32_58, l32_59, l32_63, l32_64, l32_85, l32_90, l32_97, l32_99, l32_100, l32_110, l32_112, l32_122, l32_124, l32_125, l32_255, l32_680, l32_699, l32_700, l32_999, l32_2500, l32_99999, l32_100000, l32_1000000, if_true, if_false, ite_true, ite_false, ce_nm, Option.bind, if_pos, if_neg]; omega) (Ev.pos (by simp (disch := omega) only [up_s, up_k, up_j, mm_neg, mm_def, ni_lt, ni_le, ni_eq, ni_mm, mm_ni, ni_lt_mm, ni_le_mm, mm_lt_ni, mm_le_ni, mm_lt_mm, mm_le_mm, ni_cl, ni_in, nI_add, ni_mul, ni_div, ni_rem, ni_rem2, fr_sub, fr_mm, fr_ge0, fr_lt0, fr_inj, l32_0, l32_1, l32_2, l32_3, l32_4, l32_5, l32_6, l32_7, l32_8, l32_9, l32_10, l32_11, l32_12, l32_13, l32_14, l32_15, l32_16, l32_20, l32_24, l32_25, l32_26, l32_31, l32_32, l32_34, l32_35, l32_39, l32_40, l32_44, l32_45, l32_46, l32_47, l32_48, l32_49, l32_57, l32_58, l32_59, l32_63, l32_64, l32_85, l32_90, l32_97, l32_99, l32_100, l32_110, l32_112, l32_122, l32_124, l32_125, l32_255, l32_680, l32_699, l32_700, l32_999, l32_2500, l32_99999, l32_100000, l32_1000000, if_true, if_false, ite_true, ite_false, ce_nm, Option.bind, if_pos, if_neg]; omega) (Ev.grd (ni_in (by omega) he) (Ev.nm (Ev.grd (ni_in (by omega) (by omega)) (Ev.nm (Ev.grd (ni_in (by omega) he) (Ev.nm (Ev.grd (ni_in (by omega) (by omega)) (Ev.nm (Ev.nm (Ev.some ?_)))))))))))))
  rw [ni_cl (by omega), ni_cl (by omega)]
  have fc : FrC kn h (hp_up (hp_up (hp_up (hp_up (hp_up h (kn + 5) e (nI (og b e - 1))) (kn + 5) (og b e - 1) (nI e)) (kn + 6) e (nI w)) (kn + 6) (og b e - 1) (nI w)) kn 4 ((hp_up (hp_up (hp_up (hp_up h (kn + 5) e (nI (og b e - 1))) (kn + 5) (og b e - 1) (nI e)) (kn + 6) e (nI w)) (kn + 6) (og b e - 1) (nI w)) kn 4 + 1)) := ⟨fun c q1 q2 q3 => by rw [up_kk _ _ _ _ _ q1, up_kk _ _ _ _ _ q3, up_kk _ _ _ _ _ q3, up_kk _ _ _ _ _ q2, up_kk _ _ _ _ _ q2], fun j hj => by rw [up_j _ _ _ _ _ hj, up_k _ _ _ _ _ _ (by omega), up_k _ _ _ _ _ _ (by omega), up_k _ _ _ _ _ _ (by omega), up_k _ _ _ _ _ _ (by omega)]⟩
  refine ⟨fc, nr.cab fc (fun j h1 h2 => (p.2.2 j h1 h2).symm) (fun i hi => ?_) (fun i hi q => ?_) ?_ (by rw [p.2.2 2 (by omega) (by omega)]; exact okb.2.1)⟩
  · rw [up_k _ _ _ _ _ _ (by omega), up_k _ _ _ _ _ _ (by omega), up_k _ _ _ _ _ _ (by omega)]
    by_cases y : i = og b e - 1
    · rw [y, up_s, g2, fr_s]
    · rw [up_j _ _ _ _ _ y]
      by_cases z : i = e
      · rw [z, up_s, fr_p (by omega)]
      · rw [up_j _ _ _ _ _ z, n4 i hi, p.1 i hi, cu_v g he h0 i hi, if_neg (by omega)]
  · rw [up_k _ _ _ _ _ _ (by omega)]
    by_cases y : i = og b e - 1
    · rw [y, up_s, lw, hw]
    · rw [up_j _ _ _ _ _ y]
      by_cases z : i = e
      · rw [z, up_s, hw]
      · have oa : og a i = og b i := by rw [p.1 i hi, cu_v g he h0 i hi, if_neg (by omega)]
        rw [up_j _ _ _ _ _ z, up_k _ _ _ _ _ _ (by omega), up_k _ _ _ _ _ _ (by omega), ← p.2.1 i hi (by rw [oa]; exact q)]
        exact nr.1.2.2.2.2 i hi (by rw [oa]; exact q)
  · rw [up_s, up_k _ _ _ _ _ _ (by omega), up_k _ _ _ _ _ _ (by omega), up_k _ _ _ _ _ _ (by omega), up_k _ _ _ _ _ _ (by omega), nr.2.2.2.1]
    rw [show nI (ct (fun e => bo (og a e ≠ 0)) 40 / 2) + 1 = nI (ct (fun e => bo (og a e ≠ 0)) 40 / 2 + 1) from nI_1 _]
    congr 1
    omega
