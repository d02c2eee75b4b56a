-- force
theorem q_force {F : Nat} (hF : 1000 ≤ F) (x y : Int32) : Ac (f11_force F x y) (f12_force F x y) := by
  rintro h m kn ms ra
  have ra' := ra
  obtain ⟨co, ch', ps⟩ := ra
  have on := co.2.2.1
  have b := net_le co.2.1
  have h2 := on.1.2.1
  have m4b := on.2.2.2.2.2.1
  have cm := co.2.2.2.1
  have cn := co.2.2.2.2.1.1
  have n1 : ¬ (nI 1 : Int32) = 0 := by decide
  have same : ∀ V : Int32, Ev (f12_force F x y h) (fun p => p = (V, h)) → Ev (some (V, h)) (fun o => Ev (f12_force F x y o.2) (fun p => o.1 = p.1 ∧ Fx h p.2 ∧ ∃ m' ms', RA p.2 m' kn ms')) := fun V hV => Ev.some (Ev.mono hV (fun p hp => by rw [hp]; exact ⟨rfl, Fx.refl _, m, ms, ra'⟩))
  unfold f11_force
  refine Ev.nm ?_
  rw [co.1, ni_cl (by omega)]
  refine Ev.grd co.2.1 ?_
  rw [x_hasNode x h2 cn.2.1]
  refine ev_bs ?_
  dsimp only
  by_cases nx : isN m x = false
  · refine Ev.pos (by rw [nx]; rfl) (same (-2) ?_)
    unfold f12_force
    rw [x_isNode x h2 cm, nx]
    exact ev_bs (Ev.pos rfl (Ev.some rfl))
  · obtain ⟨v, hv, rfl⟩ := isN_ex nx
    refine Ev.neg (by rw [isN_t hv]; decide) ?_
    have r0 : ∀ h', MN h' m → ∀ Q : Int32 × Hp → Prop, Ev (Option.bind (some (if (0 : Int32) ≤ y ∧ y ≤ 1 then nI 1 else nI 0, h')) (fun o12 => if o12.1 = 0 then some ((-2 : Int32), o12.2) else if ce_in ((15 : Int32) + nI v) 125 = true then if (o12.2 69 (((15 : Int32) + nI v)).toNatClampNeg) = y then some ((-5 : Int32), o12.2) else if (o12.2 69 ((4 : Int32)).toNatClampNeg) = (20 : Int32) then some ((-5 : Int32), o12.2) else Option.bind (f12_keeps F o12.2) (fun o49 => if ce_in ((15 : Int32) + nI v) 125 = true then ce_nm (hp_up o49 69 (((15 : Int32) + nI v)).toNatClampNeg y) (fun h_61 => Option.bind (f12_root F (nI v) h_61) (fun o64 => some (o64.1, o64.2))) else none) else none)) Q → Ev (f12_force F (nI v) y h') Q := fun h' c Q k => by
      unfold f12_force
      rw [x_isNode _ h2 c, isN_t hv]
      refine ev_bs (Ev.neg n1 ?_)
      dsimp only
      rw [show (0 : Int64) = (0 : Int32).toInt64 from rfl, show (1 : Int64) = (1 : Int32).toInt64 from rfl, x_in]
      exact k
    by_cases yl : y < 0
    · refine Ev.pos yl (same (-2) (r0 h cm _ ?_))
      rw [if_neg (fun z => by
        have a := Int32.le_iff_toInt_le.mp z.1
        have b := Int32.lt_iff_toInt_lt.mp yl
        omega)]
      exact ev_bs (Ev.pos rfl (Ev.some rfl))
    · refine Ev.neg yl ?_
      by_cases y1 : y ≤ (1 : Int32)
      rotate_left
      · refine Ev.neg y1 (same (-2) (r0 h cm _ ?_))
        rw [if_neg (fun z => y1 z.2)]
        exact ev_bs (Ev.pos rfl (Ev.some rfl))
      · refine Ev.pos y1 ?_
        obtain ⟨X, hX, rfl⟩ : ∃ X, X ≤ 1 ∧ y = nI X := by
          rcases i32_of y with hy | ⟨X, hX, rfl⟩
          · exact absurd hy yl
          · rw [l32_1, ni_le (by omega) (by omega)] at y1
            exact ⟨X, y1, rfl⟩
        have inX : (0 : Int32) ≤ nI X ∧ nI X ≤ 1 := ⟨by rw [l32_0, ni_le (by omega) (by omega)]; omega, y1⟩
        have e15 : (15 : Int32) + nI v = nI (15 + v) := by rw [l32_15, nI_add]
        have fv := on.2.2.2.1 v hv
        have n2v := co.2.2.2.2.1.2.2.2.2.1 v hv
        have r1 : ∀ h', MN h' m → ∀ Q : Int32 × Hp → Prop, Ev (if (h' 69 (15 + v)) = nI X then some ((-5 : Int32), h') else if (h' 69 ((4 : Int32)).toNatClampNeg) = (20 : Int32) then some ((-5 : Int32), h') else Option.bind (f12_keeps F h') (fun o49 => if ce_in (nI (15 + v)) 125 = true then ce_nm (hp_up o49 69 (15 + v) (nI X)) (fun h_61 => Option.bind (f12_root F (nI v) h_61) (fun o64 => some (o64.1, o64.2))) else none)) Q → Ev (f12_force F (nI v) (nI X) h') Q := fun h' c Q k => by
          refine r0 h' c Q ?_
          rw [if_pos inX]
          refine ev_bs (Ev.neg n1 ?_)
          dsimp only
          rw [e15, ni_cl (by omega)]
          exact Ev.grd (ni_in (by omega) (by omega)) k
        have main : Ev (f11_force_j33 F (nI v) (nI X) h) (fun o => Ev (f12_force F (nI v) (nI X) o.2) (fun p => o.1 = p.1 ∧ Fx h p.2 ∧ ∃ m' ms', RA p.2 m' kn ms')) := by
          unfold f11_force_j33
          refine Ev.nm ?_
          rw [co.1, ni_cl (by omega)]
          refine Ev.grd co.2.1 (Ev.grd (ni_in (by omega) (by omega)) ?_)
          rw [ni_cl (by omega)]
          have c4 : h 69 ((4 : Int32)).toNatClampNeg = nI (m 4) := cm 4 (by omega)
          by_cases zx : m (15 + v) = X
          · refine Ev.pos (by rw [n2v, zx]) (same (-5) (r1 h cm _ (Ev.pos (by rw [cm _ (by omega), zx]) (Ev.some rfl))))
          · refine Ev.neg (by rw [n2v, ni_eq (by omega) (by omega)]; exact zx) ?_
            by_cases full : m 4 < 20
            rotate_left
            · have fu : f0_areFull F h = some (nI 1, h) := by
                refine Ev.eq ?_
                unfold f0_areFull
                exact Ev.neg (by rw [ch'.1]; simp (disch := omega) only [up_s, up_k, up_j, mm_neg, mm_def, ni_lt, ni_le, ni_eq, ni_mm, mm_ni, ni_lt_mm, ni_le_mm, mm_lt_ni, mm_le_ni, mm_lt_mm, mm_le_mm, ni_cl, ni_in, nI_add, ni_mul, ni_div, ni_rem, ni_rem2, fr_sub, fr_mm, fr_ge0, fr_lt0, fr_inj, l32_0, l32_1, l32_2, l32_3, l32_4, l32_5, l32_6, l32_7, l32_8, l32_9, l32_10, l32_11, l32_12, l32_13, l32_14, l32_15, l32_16, l32_20, l32_24, l32_25, l32_26, l32_31, l32_32, l32_34, l32_35, l32_39, l32_40, l32_44, l32_45, l32_46, l32_47, l32_48, l32_49, l32_57, l32_58, l32_59, l32_63, l32_64, l32_85, l32_90, l32_97, l32_99, l32_100, l32_110, l32_112, l32_122, l32_124, l32_125, l32_255, l32_680, l32_699, l32_700, l32_999, l32_2500, l32_99999, l32_100000, l32_1000000, if_true, if_false, ite_true, ite_false, ce_nm, Option.bind, if_pos, if_neg]; exact full) (Ev.some rfl)
              rw [fu]
              exact ev_bs (Ev.neg n1 (same (-5) (r1 h cm _ (Ev.neg (by rw [cm _ (by omega), ni_eq (by omega) (by omega)]; exact zx) (Ev.pos (by rw [c4, show m 4 = 20 by omega]; rfl) (Ev.some rfl))))))
            · have fu : f0_areFull F h = some (nI 0, h) := by
                refine Ev.eq ?_
                unfold f0_areFull
                exact Ev.pos (by rw [ch'.1]; simp (disch := omega) only [up_s, up_k, up_j, mm_neg, mm_def, ni_lt, ni_le, ni_eq, ni_mm, mm_ni, ni_lt_mm, ni_le_mm, mm_lt_ni, mm_le_ni, mm_lt_mm, mm_le_mm, ni_cl, ni_in, nI_add, ni_mul, ni_div, ni_rem, ni_rem2, fr_sub, fr_mm, fr_ge0, fr_lt0, fr_inj, l32_0, l32_1, l32_2, l32_3, l32_4, l32_5, l32_6, l32_7, l32_8, l32_9, l32_10, l32_11, l32_12, l32_13, l32_14, l32_15, l32_16, l32_20, l32_24, l32_25, l32_26, l32_31, l32_32, l32_34, l32_35, l32_39, l32_40, l32_44, l32_45, l32_46, l32_47, l32_48, l32_49, l32_57, l32_58, l32_59, l32_63, l32_64, l32_85, l32_90, l32_97, l32_99, l32_100, l32_110, l32_112, l32_122, l32_124, l32_125, l32_255, l32_680, l32_699, l32_700, l32_999, l32_2500, l32_99999, l32_100000, l32_1000000, if_true, if_false, ite_true, ite_false, ce_nm, Option.bind, if_pos, if_neg]; exact full) (Ev.some rfl)
              obtain ⟨n, hn⟩ : ∃ n, m 4 = n := ⟨_, rfl⟩
              have m3 : m 3 ≠ 0 := fun q => by have := (on.2.2.2.2.2.2 q).1; omega
              have on4 := okn4 (x := n + 1) on (by omega) m3
              obtain ⟨m', hm'⟩ : ∃ m', m' = un (un m 4 (n + 1)) (15 + v) X := ⟨_, rfl⟩
              have em : Em (un m 4 (n + 1)) m' := fun j hj => by rw [hm']; exact un_n (by omega)
              have ff : ∀ u, m' (15 + u) = if u = v then X else m (15 + u) := fun u => by
                rw [hm']
                by_cases z : u = v
                · rw [z, un_s, if_pos rfl]
                · rw [un_n (by omega), if_neg z, un_n (by omega)]
              have on' : OkN m' := em.okn on4 (fun u hu => by
                rw [un_n (by omega)] at hu
                rw [ff]
                by_cases z : u = v
                · rw [if_pos z]; exact hX
                · rw [if_neg z]; exact on.2.2.2.1 u hu)
              have oth : ∀ j, j ≠ 4 → j ≠ 15 + v → m j = m' j := fun j j1 j2 => by rw [hm', un_n j2, un_n j1]
              have m'4 : m' 4 = n + 1 := by rw [hm', un_n (by omega), un_s]
              have m'2 : m' 2 = m 2 := (oth 2 (by omega) (by omega)).symm
              rw [fu]
              refine ev_bs (Ev.pos rfl ?_)
              dsimp only
              refine Ev.bind (x_keep (by rw [ch'.1, hn]) (by omega) _ _ _ _) (fun h1 hh1 => ?_)
              obtain ⟨f1, k35, k36, k37, k38, k39, krow⟩ := hh1
              have nr1 : NetR h1 kn m := NetR.eqv' co.2.1 co.2.2.2.2.1 (fun q q1 q2 => f1 q (by omega))
              refine Ev.nm ?_
              rw [f1 0 (by omega), co.1, ni_cl (by omega)]
              refine Ev.grd co.2.1 (Ev.grd (ni_in (by omega) (by omega)) (Ev.nm ?_))
              have vx : vp_nar .boolean (nI X) = nI X := by
                rcases (show X = 0 ∨ X = 1 by omega) with z | z
                · rw [z]; decide
                · rw [z]; decide
              rw [vx]
              obtain ⟨h3, eh3⟩ : ∃ h3, h3 = hp_up h1 (kn + 2) v (nI X) := ⟨_, rfl⟩
              rw [← eh3]
              have k3 : ∀ c, c < kn ∨ kn + 6 < c → h3 c = h1 c := fun c hc => by rw [eh3]; exact up_kk _ _ _ _ _ (by omega)
              have nr3 : NetR h3 kn m' := by
                rw [eh3]
                obtain ⟨⟨c1, c2, c3, c4, c5⟩, t0, t1, t4, t2, cc⟩ := nr1
                have oe : og m' = og m := funext (fun e => (oth (45 + e) (by omega) (by omega)).symm)
                refine ⟨⟨?_, ?_, fun u hu => ?_, fun e he => ?_, fun e he q => ?_⟩, ?_, ?_, ?_, fun u hu => ?_, fun u hu => ?_⟩
                · rw [up_k _ _ _ _ _ _ (by omega), ← oth 1 (by omega) (by omega)]; exact c1
                · rw [up_k _ _ _ _ _ _ (by omega), m'2]; exact c2
                · rw [m'2] at hu
                  rw [up_k _ _ _ _ _ _ (by omega), ← oth (5 + u) (by omega) (by omega)]; exact c3 u hu
                · rw [up_k _ _ _ _ _ _ (by omega), oe]; exact c4 e he
                · rw [oe] at q
                  rw [up_k _ _ _ _ _ _ (by omega), ← oth (85 + e) (by omega) (by omega)]; exact c5 e he q
                · rw [up_k _ _ _ _ _ _ (by omega), ← oth 3 (by omega) (by omega)]; exact t0
                · rw [up_k _ _ _ _ _ _ (by omega), ← oth 0 (by omega) (by omega)]; exact t1
                · rw [up_k _ _ _ _ _ _ (by omega), oe]; exact t4
                · rw [m'2] at hu
                  rw [ff]
                  by_cases z : u = v
                  · rw [z, up_s, if_pos rfl]
                  · rw [up_j _ _ _ _ _ z, if_neg z]; exact t2 u hu
                · rw [m'2] at hu
                  rw [up_k _ _ _ _ _ _ (by omega), up_kk _ _ _ _ _ (by omega : kn + 3 ≠ kn + 2), ← oth (25 + u) (by omega) (by omega), ← oth (35 + u) (by omega) (by omega)]
                  exact cc u hu
              refine Ev.bind (x_refresh (by rw [k3 0 (by omega), f1 0 (by omega)]; exact co.1) co.2.1 on' nr3 hF) (fun h5 hh5 => ?_)
              obtain ⟨f5, lv⟩ := hh5
              have hi5 : ∀ c, 64 < c → h5 c = h c := fun c hc => by rw [f5 c (by omega), k3 c (by omega), f1 c (by omega)]
              have low5 : ∀ c, c < 40 → (c < kn ∨ kn + 6 < c) → h5 c = h1 c := fun c c1 c2 => by rw [f5 c (by omega), k3 c c2]
              have nr5 : NetR h5 kn m' := NetR.eqv co.2.1 nr3 (fun q hq => f5 q (by omega))
              have cs5 : CS h5 kn m' := ⟨by rw [low5 0 (by omega) (by omega), f1 0 (by omega)]; exact co.1, co.2.1, nr5.1, lv.1⟩
              have hv' : v < m' 2 := by rw [m'2]; exact hv
              rw [x_rootIn (R := Rf m' (sM m')) on'.1 cs5 (fun u hu => (lv.el hu).2.1) on'.rb hv' hF]
              refine ev_bs (Ev.some ?_)
              have mn5 : MN h5 m := fun j hj => by rw [hi5 69 (by omega)]; exact cm j hj
              dsimp only
              have c45 : h5 69 ((4 : Int32)).toNatClampNeg = nI (m 4) := mn5 4 (by omega)
              refine r1 h5 mn5 _ (Ev.neg (by rw [mn5 _ (by omega), ni_eq (by omega) (by omega)]; exact zx) (Ev.neg (by rw [c45]; simp (disch := omega) only [up_s, up_k, up_j, mm_neg, mm_def, ni_lt, ni_le, ni_eq, ni_mm, mm_ni, ni_lt_mm, ni_le_mm, mm_lt_ni, mm_le_ni, mm_lt_mm, mm_le_mm, ni_cl, ni_in, nI_add, ni_mul, ni_div, ni_rem, ni_rem2, fr_sub, fr_mm, fr_ge0, fr_lt0, fr_inj, l32_0, l32_1, l32_2, l32_3, l32_4, l32_5, l32_6, l32_7, l32_8, l32_9, l32_10, l32_11, l32_12, l32_13, l32_14, l32_15, l32_16, l32_20, l32_24, l32_25, l32_26, l32_31, l32_32, l32_34, l32_35, l32_39, l32_40, l32_44, l32_45, l32_46, l32_47, l32_48, l32_49, l32_57, l32_58, l32_59, l32_63, l32_64, l32_85, l32_90, l32_97, l32_99, l32_100, l32_110, l32_112, l32_122, l32_124, l32_125, l32_255, l32_680, l32_699, l32_700, l32_999, l32_2500, l32_99999, l32_100000, l32_1000000, if_true, if_false, ite_true, ite_false, ce_nm, Option.bind, if_pos, if_neg]; omega) ?_))
              refine Ev.bind (x_keeps mn5 hn (by omega) hF) (fun h6 hh6 => ?_)
              obtain ⟨f6, mn6, p6, q6⟩ := hh6
              refine Ev.grd (ni_in (by omega) (by omega)) (Ev.nm ?_)
              have mn7 : MN (hp_up h6 69 (15 + v) (nI X)) m' := fun j hj => by
                rw [hm']
                by_cases z : j = 15 + v
                · rw [z, up_s, un_s]
                · rw [up_j _ _ _ _ _ z, un_n z]; exact mn6 j hj
              refine Ev.bind (x_mroot on' mn7 hv' hF) (fun o ho => Ev.some ?_)
              obtain ⟨o1, f8⟩ := ho
              have all : ∀ c, c ≠ 69 → c ≠ 71 → (c < 75 ∨ 82 < c) → o.2 c = h5 c := fun c q1 q2 q3 => by rw [f8 c (by omega), up_kk _ _ _ _ _ q1, f6 c q1 q2]
              have lv8 : Liv o.2 m' := lv.eqv (fun q hq => all q (by omega) (by omega) (by omega))
              have low : ∀ c, c < 40 → (c < kn ∨ kn + 6 < c) → o.2 c = h1 c := fun c c1 c2 => by rw [all c (by omega) (by omega) (by omega), low5 c c1 c2]
              refine ⟨?_, fun c hc => ?_, _, _, RA_act ra' hn m'4 (oth 3 (by omega) (by omega)).symm ⟨?_, co.2.1, on', mn7.fr f8 (by omega), NetR.eqv co.2.1 nr5 (fun q hq => all q (by omega) (by omega) (by omega)), Or.inr lv8⟩ ?_ ?_ (fun i hi => ?_) (fun j hj => ?_) (fun j hj => ?_)⟩
              · dsimp only
                rw [o1]
                by_cases lp : sz (og m') v ≤ cb (og m') v
                · rw [if_pos lp]
                  rcases rt_fi on'.1 (RT_of on'.fs) hv' with ⟨r, hp, a1, a2, a3, a4, a5⟩ | ⟨a1, a2⟩
                  · exfalso
                    have := root_tree on'.fs (by have := on'.1.2.1; omega) a3
                    rw [← sz_eq on'.1.2.2.2.1 a2, ← cb_eq on'.1.2.2.2.1 a2] at this
                    exact this lp
                  · rw [a2, fr_0]
                · rw [if_neg lp]
              · dsimp only
                rcases Nat.lt_or_ge c 40 with q | q
                · rw [low c q (by omega), f1 c (by omega)]
                · rw [all c (by omega) (by omega) (by omega)]; exact hi5 c (by omega)
              · rw [low 0 (by omega) (by omega), f1 0 (by omega)]; exact co.1
              · rw [low 35 (by omega) (by omega)]; exact k35
              · refine Or.inr (Or.inr ⟨v, hv, ?_, ?_, ?_, oth⟩)
                · rw [low 36 (by omega) (by omega), k36]; rfl
                · rw [low 37 (by omega) (by omega), k37]
                · rw [ff, if_pos rfl]; omega
              · rw [low 36 (by omega) (by omega), low 37 (by omega) (by omega), low 38 (by omega) (by omega), low 39 (by omega) (by omega)]
                exact krow i hi
              · rw [f8 71 (by omega), up_k _ _ _ _ _ _ (by omega)]; exact p6 j hj
              · rw [f8 71 (by omega), up_k _ _ _ _ _ _ (by omega), q6 j hj, hi5 71 (by omega)]
        by_cases z : X = 1
        · subst z
          exact Ev.pos rfl main
        · have z0 : X = 0 := by omega
          subst z0
          exact Ev.neg (by decide) main
