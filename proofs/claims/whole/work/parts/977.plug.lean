-- plug, force
theorem og_lym {m : Nat → Nat} {e f w : Nat} (he : e < 40) (hf : f < 40) (i : Nat) (hi : i < 40) : og (lym m e f w) i = if i = e then f + 1 else if i = f then e + 1 else og m i := by
  show lym m e f w (45 + i) = _
  unfold lym
  by_cases z1 : i = e
  · rw [if_pos (by omega), if_pos z1]
  · rw [if_neg (by omega), if_neg z1]
    by_cases z2 : i = f
    · rw [if_pos (by omega), if_pos z2]
    · rw [if_neg (by omega), if_neg z2, if_neg (by omega)]
      rfl
theorem okn_lym {m : Nat → Nat} (on : OkN m) {e f w : Nat} (he : e < 40) (hf : f < 40) (he0 : og m e = 0) (hf0 : og m f = 0) (hn : e / 4 ≠ f / 4) (he2 : e / 4 < m 2) (hf2 : f / 4 < m 2) (hep : e % 4 < m (5 + e / 4)) (hfp : f % 4 < m (5 + f / 4)) (hw1 : 1 ≤ w) (hw9 : w ≤ 9) : OkN (lym m e f w) ∧ Pg m (lym m e f w) e ∧ og (lym m e f w) e = f + 1 ∧ lym m e f w (85 + e) = w := by
  have g := on.1.2.2.2.1
  have h2 := on.1.2.1
  have small : ∀ j, j < 45 → lym m e f w j = m j := fun j hj => by unfold lym; rw [if_neg (by omega), if_neg (by omega), if_neg (by omega)]
  have ogl := fun i hi => og_lym (m := m) (w := w) he hf i hi
  have nef : e ≠ f := fun q => hn (by rw [q])
  have oe : og (lym m e f w) e = f + 1 := by rw [ogl e he, if_pos rfl]
  have of : og (lym m e f w) f = e + 1 := by rw [ogl f hf, if_neg (by omega), if_pos rfl]
  have oo : ∀ i, i < 40 → i ≠ e → i ≠ f → og (lym m e f w) i = og m i := fun i hi n1 n2 => by rw [ogl i hi, if_neg n1, if_neg n2]
  have far : ∀ i, i < 40 → og m i ≠ 0 → i ≠ e ∧ i ≠ f ∧ og m i - 1 ≠ e ∧ og m i - 1 ≠ f := fun i hi q => by
    obtain ⟨g1, g2, g3⟩ := g i hi q
    refine ⟨fun w => ?_, fun w => ?_, fun w => ?_, fun w => ?_⟩
    · rw [w] at q; exact q he0
    · rw [w] at q; exact q hf0
    · rw [w, he0] at g2; omega
    · rw [w, hf0] at g2; omega
  have le : lym m e f w (85 + e) = w := by unfold lym; rw [if_neg (by omega), if_neg (by omega), if_pos (Or.inl rfl)]
  have lf : lym m e f w (85 + f) = w := by unfold lym; rw [if_neg (by omega), if_neg (by omega), if_pos (Or.inr rfl)]
  have lo : ∀ i, i < 40 → i ≠ e → i ≠ f → lym m e f w (85 + i) = m (85 + i) := fun i hi n1 n2 => by unfold lym; rw [if_neg (by omega), if_neg (by omega), if_neg (by omega)]
  have gr : Gr (og (lym m e f w)) := fun i hi q => by
    by_cases z1 : i = e
    · rw [z1, oe, show f + 1 - 1 = f from rfl, of]; exact ⟨by omega, rfl, fun y => hn y.symm⟩
    · by_cases z2 : i = f
      · rw [z2, of, show e + 1 - 1 = e from rfl, oe]; exact ⟨by omega, rfl, hn⟩
      · rw [oo i hi z1 z2] at q ⊢
        obtain ⟨g1, g2, g3⟩ := g i hi q
        obtain ⟨a1, a2, a3, a4⟩ := far i hi q
        rw [oo _ (by omega) a3 a4]
        exact ⟨g1, g2, g3⟩
  refine ⟨?_, ⟨fun i hi => ?_, fun i hi q => ?_, fun j hj _ => (small j hj).symm⟩, oe, le⟩
  · obtain ⟨⟨a1, a2, a3, a4, a5⟩, b, c, d, e', f', g'⟩ := on
    refine ⟨⟨by rw [small 1 (by omega)]; exact a1, by rw [small 2 (by omega)]; exact a2, fun v hv => ?_, gr, fun i hi q => ?_⟩, fun v hv => ?_, by rw [small 0 (by omega)]; exact c, fun v hv => ?_, by rw [small 3 (by omega)]; exact e', by rw [small 4 (by omega)]; exact f', fun z => ?_⟩
    · rw [small 2 (by omega)] at hv
      rw [small (5 + v) (by omega)]
      exact a3 v hv
    · rw [small 2 (by omega), small (5 + i / 4) (by omega)]
      by_cases z1 : i = e
      · rw [z1, oe, show f + 1 - 1 = f from rfl, le, lf]
        exact ⟨he2, hep, hw1, hw9, rfl⟩
      · by_cases z2 : i = f
        · rw [z2, of, show e + 1 - 1 = e from rfl, le, lf]
          exact ⟨hf2, hfp, hw1, hw9, rfl⟩
        · rw [oo i hi z1 z2] at q ⊢
          obtain ⟨k1, k2, k3, k4⟩ := far i hi q
          have hog := og_le g hi
          rw [lo i hi z1 z2, lo (og m i - 1) (by omega) k3 k4]
          exact a5 i hi q
    · rw [small 2 (by omega)] at hv
      rw [small (25 + v) (by omega), small (35 + v) (by omega)]
      exact b v hv
    · rw [small 2 (by omega)] at hv
      rw [small (15 + v) (by omega)]
      exact d v hv
    · rw [small 3 (by omega)] at z
      rw [small 2 (by omega), small 4 (by omega)]
      exact g' z
  · rw [cu_v gr he (by rw [oe]; omega) i hi, oe, show f + 1 - 1 = f from rfl]
    by_cases z : i = e ∨ i = f
    · rw [if_pos z]
      rcases z with z | z
      · rw [z]; exact he0
      · rw [z]; exact hf0
    · rw [if_neg z, oo i hi (by omega) (by omega)]
  · obtain ⟨k1, k2, k3, k4⟩ := far i hi q
    exact (lo i hi k1 k2).symm
theorem q_plug {F : Nat} (hF : 1000 ≤ F) (x1 x2 x3 x4 x5 : Int32) : Ac (f11_plug F x1 x2 x3 x4 x5) (f12_plug F x1 x2 x3 x4 x5) := by
  rintro h m kn ms ra
  have ra' := ra
  obtain ⟨co, ch', ps⟩ := ra
  have on := co.2.2.1
  have b := net_le co.2.1
  have h2 := on.1.2.1
  have g := on.1.2.2.2.1
  have m4b := on.2.2.2.2.2.1
  have cm := co.2.2.2.1
  have cn := co.2.2.2.2.1.1
  have n1 : ¬ (nI 1 : Int32) = 0 := by decide
  have same : ∀ V : Int32, Ev (f12_plug F x1 x2 x3 x4 x5 h) (fun p => p = (V, h)) → Ev (some (V, h)) (fun o => Ev (f12_plug F x1 x2 x3 x4 x5 o.2) (fun p => o.1 = p.1 ∧ Fx h p.2 ∧ ∃ m' ms', RA p.2 m' kn ms')) := fun V hV => Ev.some (Ev.mono hV (fun p hp => by rw [hp]; exact ⟨rfl, Fx.refl _, m, ms, ra'⟩))
  unfold f11_plug
  refine Ev.nm ?_
  rw [co.1, ni_cl (by omega)]
  refine Ev.grd co.2.1 ?_
  rw [x_hasPort x1 x2 on.1 cn]
  refine ev_bs ?_
  dsimp only
  by_cases np : isP m x1 x2 = false
  · refine Ev.pos (by rw [np]; rfl) (same (-2) ?_)
    unfold f12_plug
    rw [x_isPort x1 x2 on.1 cm, np]
    exact ev_bs (Ev.pos rfl (Ev.some rfl))
  · obtain ⟨v, p, hv, hp, rfl, rfl⟩ := isP_ex np
    refine Ev.neg (by rw [isP_t hv hp]; decide) (Ev.nm ?_)
    rw [co.1, ni_cl (by omega)]
    refine Ev.grd co.2.1 ?_
    rw [x_hasPort x3 x4 on.1 cn]
    refine ev_bs ?_
    dsimp only
    have r0 : ∀ h', MN h' m → ∀ Q : Int32 × Hp → Prop, Ev (Option.bind (f12_isPort F x3 x4 h') (fun o13 => if o13.1 = 0 then some ((-2 : Int32), o13.2) else if nI v = x3 then some ((-2 : Int32), o13.2) else Option.bind (f12_in F ((x5).toInt64) (1 : Int64) (9 : Int64) o13.2) (fun o31 => if o31.1 = 0 then some ((-2 : Int32), o31.2) else Option.bind (f12_otherOf F (((4 : Int32) * nI v) + nI p) o31.2) (fun o58 => if 0 ≤ o58.1 then some ((-5 : Int32), o58.2) else Option.bind (f12_otherOf F (((4 : Int32) * x3) + x4) o58.2) (fun o67 => if 0 ≤ o67.1 then some ((-5 : Int32), o67.2) else if (o67.2 69 ((4 : Int32)).toNatClampNeg) = (20 : Int32) then some ((-5 : Int32), o67.2) else Option.bind (f12_keeps F o67.2) (fun o88 => Option.bind (f12_lays F (((4 : Int32) * nI v) + nI p) (((4 : Int32) * x3) + x4) x5 o88) (fun o98 => Option.bind (f12_busesOf F o98) (fun o102 => some (o102.1, o102.2))))))))) Q → Ev (f12_plug F (nI v) (nI p) x3 x4 x5 h') Q := fun h' c Q k => by
      unfold f12_plug
      rw [x_isPort _ _ on.1 c, isP_t hv hp]
      exact ev_bs (Ev.neg n1 k)
    by_cases np2 : isP m x3 x4 = false
    · refine Ev.pos (by rw [np2]; rfl) (same (-2) (r0 h cm _ ?_))
      rw [x_isPort x3 x4 on.1 cm, np2]
      exact ev_bs (Ev.pos rfl (Ev.some rfl))
    · obtain ⟨w, q, hw, hq, rfl, rfl⟩ := isP_ex np2
      refine Ev.neg (by rw [isP_t hw hq]; decide) ?_
      by_cases vw : v = w
      · refine Ev.pos (by rw [vw]) (same (-2) (r0 h cm _ ?_))
        rw [x_isPort _ _ on.1 cm, isP_t hw hq]
        exact ev_bs (Ev.neg n1 (Ev.pos (by rw [vw]) (Ev.some rfl)))
      · have nvw : ¬ nI v = nI w := fun z => by rw [ni_eq (by omega) (by omega)] at z; exact vw z
        refine Ev.neg nvw ?_
        have r1 : ∀ h', MN h' m → ∀ Q : Int32 × Hp → Prop, Ev (Option.bind (some (if (1 : Int32) ≤ x5 ∧ x5 ≤ 9 then nI 1 else nI 0, h')) (fun o31 => if o31.1 = 0 then some ((-2 : Int32), o31.2) else Option.bind (f12_otherOf F (((4 : Int32) * nI v) + nI p) o31.2) (fun o58 => if 0 ≤ o58.1 then some ((-5 : Int32), o58.2) else Option.bind (f12_otherOf F (((4 : Int32) * nI w) + nI q) o58.2) (fun o67 => if 0 ≤ o67.1 then some ((-5 : Int32), o67.2) else if (o67.2 69 ((4 : Int32)).toNatClampNeg) = (20 : Int32) then some ((-5 : Int32), o67.2) else Option.bind (f12_keeps F o67.2) (fun o88 => Option.bind (f12_lays F (((4 : Int32) * nI v) + nI p) (((4 : Int32) * nI w) + nI q) x5 o88) (fun o98 => Option.bind (f12_busesOf F o98) (fun o102 => some (o102.1, o102.2)))))))) Q → Ev (f12_plug F (nI v) (nI p) (nI w) (nI q) x5 h') Q := fun h' c Q k => by
          refine r0 h' c Q ?_
          rw [x_isPort _ _ on.1 c, isP_t hw hq]
          refine ev_bs (Ev.neg n1 (Ev.neg nvw ?_))
          dsimp only
          rw [show (1 : Int64) = (1 : Int32).toInt64 from rfl, show (9 : Int64) = (9 : Int32).toInt64 from rfl, x_in]
          exact k
        by_cases xl : x5 < (1 : Int32)
        · refine Ev.pos xl (same (-2) (r1 h cm _ ?_))
          rw [if_neg (fun z => by
            have a := Int32.le_iff_toInt_le.mp z.1
            have b := Int32.lt_iff_toInt_lt.mp xl
            omega)]
          exact ev_bs (Ev.pos rfl (Ev.some rfl))
        · refine Ev.neg xl ?_
          by_cases x9 : x5 ≤ (9 : Int32)
          rotate_left
          · refine Ev.neg x9 (same (-2) (r1 h cm _ ?_))
            rw [if_neg (fun z => x9 z.2)]
            exact ev_bs (Ev.pos rfl (Ev.some rfl))
          · refine Ev.pos x9 ?_
            obtain ⟨L, hL, rfl⟩ : ∃ L, L < 2147483648 ∧ x5 = nI L := by
              rcases i32_of x5 with hx | z
              · exfalso
                apply xl
                have a := Int32.lt_iff_toInt_lt.mp hx
                apply Int32.lt_iff_toInt_lt.mpr
                have c0 : (nI 0).toInt = 0 := rfl
                have c1 : (1 : Int32).toInt = 1 := rfl
                omega
              · exact z
            have L9 : L ≤ 9 := by rw [l32_9, ni_le (by omega) (by omega)] at x9; exact x9
            have L1 : 1 ≤ L := by
              rw [l32_1, ni_lt (by omega) (by omega)] at xl
              omega
            have inL : (1 : Int32) ≤ nI L ∧ nI L ≤ 9 := ⟨by rw [l32_1, ni_le (by omega) (by omega)]; exact L1, x9⟩
            have hpp := on.1.2.2.1 v hv
            have hqq := on.1.2.2.1 w hw
            have e4 : (4 : Int32) * nI v + nI p = nI (4 * v + p) := by rw [l32_4, ni_mul, nI_add]
            have f4 : (4 : Int32) * nI w + nI q = nI (4 * w + q) := by rw [l32_4, ni_mul, nI_add]
            obtain ⟨e, hee⟩ : ∃ e, e = 4 * v + p := ⟨_, rfl⟩
            obtain ⟨f, hff⟩ : ∃ f, f = 4 * w + q := ⟨_, rfl⟩
            have he : e < 40 := by omega
            have hf : f < 40 := by omega
            rw [← hee] at e4
            rw [← hff] at f4
            have hoge := og_le g he
            have hogf := og_le g hf
            rw [x_endOf, ← hee]
            refine ev_bs ?_
            dsimp only
            rw [x_endOf, ← hff]
            refine ev_bs (Ev.nm ?_)
            dsimp only
            rw [co.1, ni_cl (by omega)]
            refine Ev.grd co.2.1 ?_
            rw [x_isCabled F kn e (og m e) h he (by omega) (cn.2.2.2.1 e he)]
            refine ev_bs ?_
            dsimp only
            have r2 : ∀ h', MN h' m → ∀ Q : Int32 × Hp → Prop, Ev (Option.bind (some (fr (og m e), h')) (fun o58 => if 0 ≤ o58.1 then some ((-5 : Int32), o58.2) else Option.bind (f12_otherOf F (nI f) o58.2) (fun o67 => if 0 ≤ o67.1 then some ((-5 : Int32), o67.2) else if (o67.2 69 ((4 : Int32)).toNatClampNeg) = (20 : Int32) then some ((-5 : Int32), o67.2) else Option.bind (f12_keeps F o67.2) (fun o88 => Option.bind (f12_lays F (nI e) (nI f) (nI L) o88) (fun o98 => Option.bind (f12_busesOf F o98) (fun o102 => some (o102.1, o102.2))))))) Q → Ev (f12_plug F (nI v) (nI p) (nI w) (nI q) (nI L) h') Q := fun h' c Q k => by
              refine r1 h' c Q ?_
              rw [if_pos inL]
              refine ev_bs (Ev.neg n1 ?_)
              dsimp only
              rw [e4, f4, x_otherOf c he]
              exact k
            by_cases z1 : og m e = 0
            rotate_left
            · refine Ev.neg (by rw [if_neg z1]; decide) (same (-5) (r2 h cm _ ?_))
              rw [fr_p (by omega)]
              exact ev_bs (Ev.pos (by simp (disch := omega) only [up_s, up_k, up_j, mm_neg, mm_def, ni_lt, ni_le, ni_eq, ni_mm, mm_ni, ni_lt_mm, ni_le_mm, mm_lt_ni, mm_le_ni, mm_lt_mm, mm_le_mm, ni_cl, ni_in, nI_add, ni_mul, ni_div, ni_rem, ni_rem2, fr_sub, fr_mm, fr_ge0, fr_lt0, fr_inj, l32_0, l32_1, l32_2, l32_3, l32_4, l32_5, l32_6, l32_7, l32_8, l32_9, l32_10, l32_11, l32_12, l32_13, l32_14, l32_15, l32_16, l32_20, l32_24, l32_25, l32_26, l32_31, l32_32, l32_34, l32_35, l32_39, l32_40, l32_44, l32_45, l32_46, l32_47, l32_48, l32_49, l32_57, l32_58, l32_59, l32_63, l32_64, l32_85, l32_90, l32_97, l32_99, l32_100, l32_110, l32_112, l32_122, l32_124, l32_125, l32_255, l32_680, l32_699, l32_700, l32_999, l32_2500, l32_99999, l32_100000, l32_1000000, if_true, if_false, ite_true, ite_false, ce_nm, Option.bind, if_pos, if_neg]; omega) (Ev.some rfl))
            · refine Ev.pos (by rw [if_pos z1]; rfl) (Ev.nm ?_)
              rw [co.1, ni_cl (by omega)]
              refine Ev.grd co.2.1 ?_
              rw [x_isCabled F kn f (og m f) h hf (by omega) (cn.2.2.2.1 f hf)]
              refine ev_bs ?_
              dsimp only
              by_cases z2 : og m f = 0
              rotate_left
              · refine Ev.neg (by rw [if_neg z2]; decide) (same (-5) (r2 h cm _ ?_))
                rw [z1]
                refine ev_bs (Ev.neg cmm' ?_)
                dsimp only
                rw [x_otherN cm hf z2]
                exact ev_bs (Ev.pos (by simp (disch := omega) only [up_s, up_k, up_j, mm_neg, mm_def, ni_lt, ni_le, ni_eq, ni_mm, mm_ni, ni_lt_mm, ni_le_mm, mm_lt_ni, mm_le_ni, mm_lt_mm, mm_le_mm, ni_cl, ni_in, nI_add, ni_mul, ni_div, ni_rem, ni_rem2, fr_sub, fr_mm, fr_ge0, fr_lt0, fr_inj, l32_0, l32_1, l32_2, l32_3, l32_4, l32_5, l32_6, l32_7, l32_8, l32_9, l32_10, l32_11, l32_12, l32_13, l32_14, l32_15, l32_16, l32_20, l32_24, l32_25, l32_26, l32_31, l32_32, l32_34, l32_35, l32_39, l32_40, l32_44, l32_45, l32_46, l32_47, l32_48, l32_49, l32_57, l32_58, l32_59, l32_63, l32_64, l32_85, l32_90, l32_97, l32_99, l32_100, l32_110, l32_112, l32_122, l32_124, l32_125, l32_255, l32_680, l32_699, l32_700, l32_999, l32_2500, l32_99999, l32_100000, l32_1000000, if_true, if_false, ite_true, ite_false, ce_nm, Option.bind, if_pos, if_neg]; omega) (Ev.some rfl))
              · refine Ev.pos (by rw [if_pos z2]; rfl) ?_
                have r3 : ∀ h', MN h' m → ∀ Q : Int32 × Hp → Prop, Ev (if (h' 69 ((4 : Int32)).toNatClampNeg) = (20 : Int32) then some ((-5 : Int32), h') else Option.bind (f12_keeps F h') (fun o88 => Option.bind (f12_lays F (nI e) (nI f) (nI L) o88) (fun o98 => Option.bind (f12_busesOf F o98) (fun o102 => some (o102.1, o102.2))))) Q → Ev (f12_plug F (nI v) (nI p) (nI w) (nI q) (nI L) h') Q := fun h' c Q k => by
                  refine r2 h' c Q ?_
                  rw [z1]
                  refine ev_bs (Ev.neg cmm' ?_)
                  dsimp only
                  rw [x_otherOf c hf, z2]
                  exact ev_bs (Ev.neg cmm' k)
                have c4 : h 69 ((4 : Int32)).toNatClampNeg = nI (m 4) := cm 4 (by omega)
                by_cases full : m 4 < 20
                rotate_left
                · have fu : f0_areFull F h = some (nI 1, h) := by
                    refine Ev.eq ?_
                    unfold f0_areFull
                    exact Ev.neg (by rw [ch'.1]; simp (disch := omega) only [up_s, up_k, up_j, mm_neg, mm_def, ni_lt, ni_le, ni_eq, ni_mm, mm_ni, ni_lt_mm, ni_le_mm, mm_lt_ni, mm_le_ni, mm_lt_mm, mm_le_mm, ni_cl, ni_in, nI_add, ni_mul, ni_div, ni_rem, ni_rem2, fr_sub, fr_mm, fr_ge0, fr_lt0, fr_inj, l32_0, l32_1, l32_2, l32_3, l32_4, l32_5, l32_6, l32_7, l32_8, l32_9, l32_10, l32_11, l32_12, l32_13, l32_14, l32_15, l32_16, l32_20, l32_24, l32_25, l32_26, l32_31, l32_32, l32_34, l32_35, l32_39, l32_40, l32_44, l32_45, l32_46, l32_47, l32_48, l32_49, l32_57, l32_58, l32_59, l32_63, l32_64, l32_85, l32_90, l32_97, l32_99, l32_100, l32_110, l32_112, l32_122, l32_124, l32_125, l32_255, l32_680, l32_699, l32_700, l32_999, l32_2500, l32_99999, l32_100000, l32_1000000, if_true, if_false, ite_true, ite_false, ce_nm, Option.bind, if_pos, if_neg]; exact full) (Ev.some rfl)
                  rw [fu]
                  exact ev_bs (Ev.neg n1 (same (-5) (r3 h cm _ (Ev.pos (by rw [c4, show m 4 = 20 by omega]; rfl) (Ev.some rfl)))))
                · have fu : f0_areFull F h = some (nI 0, h) := by
                    refine Ev.eq ?_
                    unfold f0_areFull
                    exact Ev.pos (by rw [ch'.1]; simp (disch := omega) only [up_s, up_k, up_j, mm_neg, mm_def, ni_lt, ni_le, ni_eq, ni_mm, mm_ni, ni_lt_mm, ni_le_mm, mm_lt_ni, mm_le_ni, mm_lt_mm, mm_le_mm, ni_cl, ni_in, nI_add, ni_mul, ni_div, ni_rem, ni_rem2, fr_sub, fr_mm, fr_ge0, fr_lt0, fr_inj, l32_0, l32_1, l32_2, l32_3, l32_4, l32_5, l32_6, l32_7, l32_8, l32_9, l32_10, l32_11, l32_12, l32_13, l32_14, l32_15, l32_16, l32_20, l32_24, l32_25, l32_26, l32_31, l32_32, l32_34, l32_35, l32_39, l32_40, l32_44, l32_45, l32_46, l32_47, l32_48, l32_49, l32_57, l32_58, l32_59, l32_63, l32_64, l32_85, l32_90, l32_97, l32_99, l32_100, l32_110, l32_112, l32_122, l32_124, l32_125, l32_255, l32_680, l32_699, l32_700, l32_999, l32_2500, l32_99999, l32_100000, l32_1000000, if_true, if_false, ite_true, ite_false, ce_nm, Option.bind, if_pos, if_neg]; exact full) (Ev.some rfl)
                  obtain ⟨n, hn⟩ : ∃ n, m 4 = n := ⟨_, rfl⟩
                  have m3 : m 3 ≠ 0 := fun y => by have := (on.2.2.2.2.2.2 y).1; omega
                  have on4 := okn4 (x := n + 1) on (by omega) m3
                  obtain ⟨on', pg4, oe, le⟩ := okn_lym (w := L) on4 he hf (by rw [og_un4]; exact z1) (by rw [og_un4]; exact z2) (by omega) (by rw [un_n (by omega)]; omega) (by rw [un_n (by omega)]; omega) (by rw [un_n (by omega), show e / 4 = v by omega]; omega) (by rw [un_n (by omega), show f / 4 = w by omega]; omega) L1 L9
                  obtain ⟨m', hm'⟩ : ∃ m', m' = lym (un m 4 (n + 1)) e f L := ⟨_, rfl⟩
                  rw [← hm'] at on' pg4 oe le
                  have pg : Pg m m' e := ⟨fun i hi => by rw [← pg4.1 i hi, og_un4], fun i hi y => by rw [← pg4.2.1 i hi (by rw [og_un4]; exact y), un_n (by omega)], fun j hj j4 => by rw [← pg4.2.2 j hj j4, un_n j4]⟩
                  have m'4 : m' 4 = n + 1 := by rw [hm']; unfold lym; rw [if_neg (by omega), if_neg (by omega), if_neg (by omega), un_s]
                  have m'3 : m' 3 = m 3 := (pg.2.2 3 (by omega) (by omega)).symm
                  rw [fu]
                  refine ev_bs (Ev.pos rfl ?_)
                  dsimp only
                  refine Ev.bind (x_keep (by rw [ch'.1, hn]) (by omega) _ _ _ _) (fun h1 hh1 => ?_)
                  obtain ⟨f1, k35, k36, k37, k38, k39, krow⟩ := hh1
                  have nr1 : NetR h1 kn m := NetR.eqv' co.2.1 co.2.2.2.2.1 (fun y q1 q2 => f1 y (by omega))
                  refine Ev.nm ?_
                  rw [f1 0 (by omega), co.1, ni_cl (by omega)]
                  have lk := x_link (F := F) nr1 on'.1 he (by rw [oe]; omega) pg le
                  rw [oe, show f + 1 - 1 = f from rfl] at lk
                  refine Ev.grd co.2.1 (Ev.bind lk (fun h3 hh3 => ?_))
                  obtain ⟨fc, nr3⟩ := hh3
                  have k3 : ∀ c, c < kn ∨ kn + 6 < c → h3 c = h1 c := fun c hc => fc.1 c (by omega) (by omega) (by omega)
                  refine Ev.bind (x_refresh (by rw [k3 0 (by omega), f1 0 (by omega)]; exact co.1) co.2.1 on' nr3 hF) (fun h5 hh5 => Ev.some ?_)
                  obtain ⟨f5, lv⟩ := hh5
                  have hi5 : ∀ c, 64 < c → h5 c = h c := fun c hc => by rw [f5 c (by omega), k3 c (by omega), f1 c (by omega)]
                  have mn5 : MN h5 m := fun j hj => by rw [hi5 69 (by omega)]; exact cm j hj
                  dsimp only
                  have c45 : h5 69 ((4 : Int32)).toNatClampNeg = nI (m 4) := mn5 4 (by omega)
                  refine r3 h5 mn5 _ (Ev.neg (by rw [c45]; simp (disch := omega) only [up_s, up_k, up_j, mm_neg, mm_def, ni_lt, ni_le, ni_eq, ni_mm, mm_ni, ni_lt_mm, ni_le_mm, mm_lt_ni, mm_le_ni, mm_lt_mm, mm_le_mm, ni_cl, ni_in, nI_add, ni_mul, ni_div, ni_rem, ni_rem2, fr_sub, fr_mm, fr_ge0, fr_lt0, fr_inj, l32_0, l32_1, l32_2, l32_3, l32_4, l32_5, l32_6, l32_7, l32_8, l32_9, l32_10, l32_11, l32_12, l32_13, l32_14, l32_15, l32_16, l32_20, l32_24, l32_25, l32_26, l32_31, l32_32, l32_34, l32_35, l32_39, l32_40, l32_44, l32_45, l32_46, l32_47, l32_48, l32_49, l32_57, l32_58, l32_59, l32_63, l32_64, l32_85, l32_90, l32_97, l32_99, l32_100, l32_110, l32_112, l32_122, l32_124, l32_125, l32_255, l32_680, l32_699, l32_700, l32_999, l32_2500, l32_99999, l32_100000, l32_1000000, if_true, if_false, ite_true, ite_false, ce_nm, Option.bind, if_pos, if_neg]; omega) ?_)
                  refine Ev.bind (x_keeps mn5 hn (by omega) hF) (fun h6 hh6 => ?_)
                  obtain ⟨f6, mn6, p6, q6⟩ := hh6
                  refine Ev.bind (x_lays (w := L) mn6 he hf (fun y => by omega)) (fun h7 hh7 => ?_)
                  obtain ⟨f7, mn7⟩ := hh7
                  rw [← hm'] at mn7
                  refine Ev.bind (x_busesOf on'.1 mn7 hF) (fun o ho => Ev.some ?_)
                  obtain ⟨o1, f8, -⟩ := ho
                  have all : ∀ c, c ≠ 69 → c ≠ 71 → c ≠ 75 → o.2 c = h5 c := fun c q1 q2 q3 => by rw [f8 c (by omega), f7.1 c q1, f6 c q1 q2]
                  have lv8 : Liv o.2 m' := lv.eqv (fun y hy => all y (by omega) (by omega) (by omega))
                  have low : ∀ c, c < 40 → (c < kn ∨ kn + 6 < c) → o.2 c = h1 c := fun c c1 c2 => by rw [all c (by omega) (by omega) (by omega), f5 c (by omega), k3 c c2]
                  refine ⟨?_, fun c hc => ?_, _, _, RA_act ra' hn m'4 m'3 ⟨?_, co.2.1, on', mn7.fr f8 (by omega), NetR.eqv co.2.1 nr3 (fun y hy => by rw [all y (by omega) (by omega) (by omega), f5 y (by omega)]), Or.inr lv8⟩ ?_ ?_ (fun i hi => ?_) (fun j hj => ?_) (fun j hj => ?_)⟩
                  · dsimp only
                    rw [o1]
                    exact lv.1.1
                  · dsimp only
                    rcases Nat.lt_or_ge c 40 with y | y
                    · rw [low c y (by omega), f1 c (by omega)]
                    · rw [all c (by omega) (by omega) (by omega)]; exact hi5 c (by omega)
                  · rw [low 0 (by omega) (by omega), f1 0 (by omega)]; exact co.1
                  · rw [low 35 (by omega) (by omega)]; exact k35
                  · refine Or.inl ⟨e, he, ?_, ?_, by rw [oe]; omega, pg⟩
                    · rw [low 36 (by omega) (by omega), k36]; rfl
                    · rw [low 37 (by omega) (by omega), k37]
                  · rw [low 36 (by omega) (by omega), low 37 (by omega) (by omega), low 38 (by omega) (by omega), low 39 (by omega) (by omega)]
                    exact krow i hi
                  · rw [f8 71 (by omega), f7.1 71 (by omega)]; exact p6 j hj
                  · rw [f8 71 (by omega), f7.1 71 (by omega), q6 j hj, hi5 71 (by omega)]
