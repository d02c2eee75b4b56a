-- the reference's goesOut and laysWays
theorem MN.at {h : Hp} {m : Nat → Nat} (c : MN h m) {j : Nat} (hj : j < 125) : h 69 j = nI (m j) := c j hj
/-- a node's way and cables are written -/
def La (h : Hp) (hp dy : Nat → Nat) (w : Nat) : Prop := h 84 w = nI (dy w - 1) ∧ h 85 w = nI (hp w - 1)
/-- what is written between: nothing but right labels -/
def Lo (h h' : Hp) (hp dy : Nat → Nat) : Prop := Fr 84 85 h h' ∧ ∀ w, w < 10 → (h' 84 w = h 84 w ∧ h' 85 w = h 85 w) ∨ (hp w ≠ 0 ∧ La h' hp dy w)
theorem Lo.refl (h : Hp) (hp dy : Nat → Nat) : Lo h h hp dy := ⟨Fr.refl _ _ _, fun _ _ => Or.inl ⟨rfl, rfl⟩⟩
theorem Lo.trans {h1 h2 h3 : Hp} {hp dy : Nat → Nat} (a : Lo h1 h2 hp dy) (b : Lo h2 h3 hp dy) : Lo h1 h3 hp dy := by
  refine ⟨a.1.trans b.1, fun w hw => ?_⟩
  rcases b.2 w hw with z | z
  · rcases a.2 w hw with y | y
    · exact Or.inl ⟨z.1.trans y.1, z.2.trans y.2⟩
    · exact Or.inr ⟨y.1, z.1.trans y.2.1, z.2.trans y.2.2⟩
  · exact Or.inr z
theorem Lo.keep {h h' : Hp} {hp dy : Nat → Nat} (a : Lo h h' hp dy) {w : Nat} (hw : w < 10) (l : La h hp dy w) : La h' hp dy w := by
  rcases a.2 w hw with z | z
  · exact ⟨z.1.trans l.1, z.2.trans l.2⟩
  · exact z.2
theorem x_goesOut {m : Nat → Nat} {a F : Nat} {hp dy pe : Nat → Nat} (ok : OkG m) (ha : a < 10) (bf : Bf m (og m) a hp dy) (hpe : Pe m (og m) a hp dy pe) (tr : ¬ sz (og m) a ≤ cb (og m) a) (hF : 1000 ≤ F) :
    ∀ (d v fx : Nat) (h : Hp), MN h m → v < 10 → Cn (og m) a v → 12 ≤ hp v + d → (v = a → fx = 0) → (v ≠ a → fx = og m (pe v)) → Ev (f12_goesOut F d (nI v) (fr fx) (nI (dy v - 1)) (nI (hp v - 1)) h) (fun h' => Lo h h' hp dy ∧ ∀ w, w < 10 → Dn (og m) a pe v w → La h' hp dy w) := by
  have g := ok.2.2.2.1
  have te := tree_ends g ha hpe tr
  intro d
  induction d with
  | zero =>
    intro v fx h c hv hc hd
    have := (bf.2.2.2.1 v hv).1
    omega
  | succ d ih =>
    intro v fx h c hv hc hd hf1 hf2
    obtain ⟨l1, l2, l3⟩ := bf.2.2.2.1 v hv
    have hv0 : hp v ≠ 0 := (bf.2.2.1 v hv).mpr hc
    have hdy0 := l3 hv0
    unfold f12_goesOut
    refine Ev.grd (by simp (disch := omega) only [up_s, up_k, up_j, mm_neg, mm_def, ni_lt, ni_le, ni_eq, ni_mm, mm_ni, ni_lt_mm, ni_le_mm, mm_lt_ni, mm_le_ni, mm_lt_mm, mm_le_mm, ni_cl, ni_in, nI_add, ni_mul, ni_div, ni_rem, ni_rem2, fr_sub, fr_mm, fr_ge0, fr_lt0, fr_inj, l32_0, l32_1, l32_2, l32_3, l32_4, l32_5, l32_6, l32_7, l32_8, l32_9, l32_10, l32_11, l32_12, l32_13, l32_14, l32_15, l32_16, l32_20, l32_24, l32_25, l32_26, l32_31, l32_32, l32_34, l32_35, l32_39, l32_40, l32_44, l32_45, l32_46, l32_47, l32_48, l32_49, l32_57, l32_58, l32_59, l32_63, l32_64, l32_85, l32_90, l32_97, l32_99, l32_100, l32_110, l32_112, l32_122, l32_124, l32_125, l32_255, l32_680, l32_699, l32_700, l32_999, l32_2500, l32_99999, l32_100000, l32_1000000, if_true, if_false, ite_true, ite_false, ce_nm, Option.bind, if_pos, if_neg]) (Ev.nm (Ev.grd (by simp (disch := omega) only [up_s, up_k, up_j, mm_neg, mm_def, ni_lt, ni_le, ni_eq, ni_mm, mm_ni, ni_lt_mm, ni_le_mm, mm_lt_ni, mm_le_ni, mm_lt_mm, mm_le_mm, ni_cl, ni_in, nI_add, ni_mul, ni_div, ni_rem, ni_rem2, fr_sub, fr_mm, fr_ge0, fr_lt0, fr_inj, l32_0, l32_1, l32_2, l32_3, l32_4, l32_5, l32_6, l32_7, l32_8, l32_9, l32_10, l32_11, l32_12, l32_13, l32_14, l32_15, l32_16, l32_20, l32_24, l32_25, l32_26, l32_31, l32_32, l32_34, l32_35, l32_39, l32_40, l32_44, l32_45, l32_46, l32_47, l32_48, l32_49, l32_57, l32_58, l32_59, l32_63, l32_64, l32_85, l32_90, l32_97, l32_99, l32_100, l32_110, l32_112, l32_122, l32_124, l32_125, l32_255, l32_680, l32_699, l32_700, l32_999, l32_2500, l32_99999, l32_100000, l32_1000000, if_true, if_false, ite_true, ite_false, ce_nm, Option.bind, if_pos, if_neg]) (Ev.nm ?_)))
    rw [ni_cl (by omega)]
    obtain ⟨h1, eh1⟩ : ∃ z, z = hp_up (hp_up h 84 v (nI (dy v - 1))) 85 v (nI (hp v - 1)) := ⟨_, rfl⟩
    rw [← eh1]
    have lo1 : Lo h h1 hp dy := by
      rw [eh1]
      refine ⟨((up_fr _ _ _ _).wide (by omega) (by omega)).trans ((up_fr _ _ _ _).wide (by omega) (by omega)), fun w hw => ?_⟩
      by_cases z : w = v
      · rw [z]
        exact Or.inr ⟨hv0, by rw [up_k _ _ _ _ _ _ (by omega), up_s], by rw [up_s]⟩
      · exact Or.inl ⟨by rw [up_k _ _ _ _ _ _ (by omega), up_j _ _ _ _ _ z], by rw [up_j _ _ _ _ _ z, up_k _ _ _ _ _ _ (by omega)]⟩
    have la1 : La h1 hp dy v := by rw [eh1]; exact ⟨by rw [up_k _ _ _ _ _ _ (by omega), up_s], by rw [up_s]⟩
    have hfx : fx ≤ 40 := by
      by_cases z : v = a
      · rw [hf1 z]; omega
      · rw [hf2 z]; exact og_le g (hpe v hv hc z).1
    have m4 : (4 : Int32) * nI v = nI (4 * v) := pk_mul 4 v
    rw [m4]
    refine Ev.bind (P := fun h' => Lo h h' hp dy ∧ ∀ w, w < 10 → Dn (og m) a pe v w → La h' hp dy w) ?_ (fun r hr => Ev.some hr)
    refine Ev.it (I := fun i st => st.1 = nI (4 * v + i) ∧ Lo h st.2 hp dy ∧ La st.2 hp dy v ∧ ∀ e, e < 4 * v + i → e / 4 = v → og m e ≠ 0 → (og m e - 1) / 4 ≠ a → og m e - 1 = pe ((og m e - 1) / 4) → ∀ w, w < 10 → Dn (og m) a pe ((og m e - 1) / 4) w → La st.2 hp dy w) _ 4 ?_ F 0 _ (by omega) (by omega) ⟨rfl, lo1, la1, fun e he1 he2 => by omega⟩
    rintro i ⟨x5, h2⟩ hi hI
    obtain ⟨rfl, i1, i2, i3⟩ : x5 = nI (4 * v + i) ∧ Lo h h2 hp dy ∧ La h2 hp dy v ∧ ∀ e, e < 4 * v + i → e / 4 = v → og m e ≠ 0 → (og m e - 1) / 4 ≠ a → og m e - 1 = pe ((og m e - 1) / 4) → ∀ w, w < 10 → Dn (og m) a pe ((og m e - 1) / 4) w → La h2 hp dy w := hI
    show Ev (f12_goesOut_b20 F (f12_goesOut F d) (nI v) (fr fx) (nI (dy v - 1)) (nI (hp v - 1)) (nI (4 * v + i)) h2) _
    unfold f12_goesOut_b20
    have c2 := c.fr i1.1 (by omega)
    by_cases hin : 4 ≤ i
    · refine Ev.pos (by simp (disch := omega) only [up_s, up_k, up_j, mm_neg, mm_def, ni_lt, ni_le, ni_eq, ni_mm, mm_ni, ni_lt_mm, ni_le_mm, mm_lt_ni, mm_le_ni, mm_lt_mm, mm_le_mm, ni_cl, ni_in, nI_add, ni_mul, ni_div, ni_rem, ni_rem2, fr_sub, fr_mm, fr_ge0, fr_lt0, fr_inj, l32_0, l32_1, l32_2, l32_3, l32_4, l32_5, l32_6, l32_7, l32_8, l32_9, l32_10, l32_11, l32_12, l32_13, l32_14, l32_15, l32_16, l32_20, l32_24, l32_25, l32_26, l32_31, l32_32, l32_34, l32_35, l32_39, l32_40, l32_44, l32_45, l32_46, l32_47, l32_48, l32_49, l32_57, l32_58, l32_59, l32_63, l32_64, l32_85, l32_90, l32_97, l32_99, l32_100, l32_110, l32_112, l32_122, l32_124, l32_125, l32_255, l32_680, l32_699, l32_700, l32_999, l32_2500, l32_99999, l32_100000, l32_1000000, if_true, if_false, ite_true, ite_false, ce_nm, Option.bind, if_pos, if_neg]; omega) (Ev.some ⟨i1, fun w hw hdn => ?_⟩)
      rcases hdn.cases with rfl | ⟨x, x1, x2, x3, x4, x5⟩
      · exact i2
      · obtain ⟨p1, p2, p3, p4, p5, p6⟩ := hpe x x1 x3 x2
        obtain ⟨g1, g2, g3⟩ := g (pe x) p1 p3
        refine i3 (og m (pe x) - 1) (by omega) (by omega) (by omega) ?_ ?_ w hw ?_
        · rw [g2]; simpa [p2] using x2
        · rw [g2]; simp [p2]
        · rw [g2]; simpa [p2] using x5
    · refine Ev.neg (by simp (disch := omega) only [up_s, up_k, up_j, mm_neg, mm_def, ni_lt, ni_le, ni_eq, ni_mm, mm_ni, ni_lt_mm, ni_le_mm, mm_lt_ni, mm_le_ni, mm_lt_mm, mm_le_mm, ni_cl, ni_in, nI_add, ni_mul, ni_div, ni_rem, ni_rem2, fr_sub, fr_mm, fr_ge0, fr_lt0, fr_inj, l32_0, l32_1, l32_2, l32_3, l32_4, l32_5, l32_6, l32_7, l32_8, l32_9, l32_10, l32_11, l32_12, l32_13, l32_14, l32_15, l32_16, l32_20, l32_24, l32_25, l32_26, l32_31, l32_32, l32_34, l32_35, l32_39, l32_40, l32_44, l32_45, l32_46, l32_47, l32_48, l32_49, l32_57, l32_58, l32_59, l32_63, l32_64, l32_85, l32_90, l32_97, l32_99, l32_100, l32_110, l32_112, l32_122, l32_124, l32_125, l32_255, l32_680, l32_699, l32_700, l32_999, l32_2500, l32_99999, l32_100000, l32_1000000, if_true, if_false, ite_true, ite_false, ce_nm, Option.bind, if_pos, if_neg]; omega) ?_
      obtain ⟨en, hen⟩ : ∃ e, e = 4 * v + i := ⟨_, rfl⟩
      have hie : en < 40 := by omega
      have hev : en / 4 = v := by omega
      rw [← hen] at i3 ⊢
      rw [x_otherOf c2 hie]
      have hog := og_le g hie
      have nxt : nI en + 1 = nI (4 * v + (i + 1)) := by rw [hen]; exact nI_1 _
      show Ev (if fr (og m en) < 0 then _ else _) _
      by_cases hz : og m en = 0
      · refine Ev.pos (by simp (disch := omega) only [up_s, up_k, up_j, mm_neg, mm_def, ni_lt, ni_le, ni_eq, ni_mm, mm_ni, ni_lt_mm, ni_le_mm, mm_lt_ni, mm_le_ni, mm_lt_mm, mm_le_mm, ni_cl, ni_in, nI_add, ni_mul, ni_div, ni_rem, ni_rem2, fr_sub, fr_mm, fr_ge0, fr_lt0, fr_inj, l32_0, l32_1, l32_2, l32_3, l32_4, l32_5, l32_6, l32_7, l32_8, l32_9, l32_10, l32_11, l32_12, l32_13, l32_14, l32_15, l32_16, l32_20, l32_24, l32_25, l32_26, l32_31, l32_32, l32_34, l32_35, l32_39, l32_40, l32_44, l32_45, l32_46, l32_47, l32_48, l32_49, l32_57, l32_58, l32_59, l32_63, l32_64, l32_85, l32_90, l32_97, l32_99, l32_100, l32_110, l32_112, l32_122, l32_124, l32_125, l32_255, l32_680, l32_699, l32_700, l32_999, l32_2500, l32_99999, l32_100000, l32_1000000, if_true, if_false, ite_true, ite_false, ce_nm, Option.bind, if_pos, if_neg]; exact hz) (Ev.some ⟨by omega, nxt, i1, i2, fun e he1 he2 h0 => ?_⟩)
        by_cases y : e = en
        · rw [y] at h0; exact absurd hz h0
        · exact i3 e (by omega) he2 h0
      · refine Ev.neg (by simp (disch := omega) only [up_s, up_k, up_j, mm_neg, mm_def, ni_lt, ni_le, ni_eq, ni_mm, mm_ni, ni_lt_mm, ni_le_mm, mm_lt_ni, mm_le_ni, mm_lt_mm, mm_le_mm, ni_cl, ni_in, nI_add, ni_mul, ni_div, ni_rem, ni_rem2, fr_sub, fr_mm, fr_ge0, fr_lt0, fr_inj, l32_0, l32_1, l32_2, l32_3, l32_4, l32_5, l32_6, l32_7, l32_8, l32_9, l32_10, l32_11, l32_12, l32_13, l32_14, l32_15, l32_16, l32_20, l32_24, l32_25, l32_26, l32_31, l32_32, l32_34, l32_35, l32_39, l32_40, l32_44, l32_45, l32_46, l32_47, l32_48, l32_49, l32_57, l32_58, l32_59, l32_63, l32_64, l32_85, l32_90, l32_97, l32_99, l32_100, l32_110, l32_112, l32_122, l32_124, l32_125, l32_255, l32_680, l32_699, l32_700, l32_999, l32_2500, l32_99999, l32_100000, l32_1000000, if_true, if_false, ite_true, ite_false, ce_nm, Option.bind, if_pos, if_neg]; exact hz) ?_
        show Ev (Option.bind (f12_otherOf F (nI en) h2) _) _
        rw [x_otherOf c2 hie]
        show Ev (if fr (og m en) = fr fx then _ else _) _
        obtain ⟨g1, g2, g3⟩ := g en hie hz
        by_cases hfr : og m en = fx
        · refine Ev.pos (by simp (disch := omega) only [up_s, up_k, up_j, mm_neg, mm_def, ni_lt, ni_le, ni_eq, ni_mm, mm_ni, ni_lt_mm, ni_le_mm, mm_lt_ni, mm_le_ni, mm_lt_mm, mm_le_mm, ni_cl, ni_in, nI_add, ni_mul, ni_div, ni_rem, ni_rem2, fr_sub, fr_mm, fr_ge0, fr_lt0, fr_inj, l32_0, l32_1, l32_2, l32_3, l32_4, l32_5, l32_6, l32_7, l32_8, l32_9, l32_10, l32_11, l32_12, l32_13, l32_14, l32_15, l32_16, l32_20, l32_24, l32_25, l32_26, l32_31, l32_32, l32_34, l32_35, l32_39, l32_40, l32_44, l32_45, l32_46, l32_47, l32_48, l32_49, l32_57, l32_58, l32_59, l32_63, l32_64, l32_85, l32_90, l32_97, l32_99, l32_100, l32_110, l32_112, l32_122, l32_124, l32_125, l32_255, l32_680, l32_699, l32_700, l32_999, l32_2500, l32_99999, l32_100000, l32_1000000, if_true, if_false, ite_true, ite_false, ce_nm, Option.bind, if_pos, if_neg]; exact hfr) (Ev.some ⟨by omega, nxt, i1, i2, fun e he1 he2 h0 h3 h4 => ?_⟩)
          by_cases y : e = en
          · exfalso
            rw [y] at h3 h4
            by_cases z : v = a
            · rw [hf1 z] at hfr; omega
            · rw [hf2 z] at hfr
              obtain ⟨p1, p2, p3, p4, p5, p6⟩ := hpe v hv hc z
              obtain ⟨k1, k2, k3⟩ := g (pe v) p1 p3
              have e5 : en = pe v := by
                have := g2
                rw [hfr, k2] at this
                omega
              have hcw : Cn (og m) a ((og m en - 1) / 4) := Cn.step hie hz (by rw [hev]; exact hc)
              obtain ⟨q1, q2, q3, q4, q5, q6⟩ := hpe ((og m en - 1) / 4) (by omega) hcw h3
              rw [← h4, g2] at q5
              have e6 : (en + 1 - 1) / 4 = v := by omega
              rw [e6] at q5
              rw [← e5] at p5
              omega
          · exact i3 e (by omega) he2 h0 h3 h4
        · refine Ev.neg (by simp (disch := omega) only [up_s, up_k, up_j, mm_neg, mm_def, ni_lt, ni_le, ni_eq, ni_mm, mm_ni, ni_lt_mm, ni_le_mm, mm_lt_ni, mm_le_ni, mm_lt_mm, mm_le_mm, ni_cl, ni_in, nI_add, ni_mul, ni_div, ni_rem, ni_rem2, fr_sub, fr_mm, fr_ge0, fr_lt0, fr_inj, l32_0, l32_1, l32_2, l32_3, l32_4, l32_5, l32_6, l32_7, l32_8, l32_9, l32_10, l32_11, l32_12, l32_13, l32_14, l32_15, l32_16, l32_20, l32_24, l32_25, l32_26, l32_31, l32_32, l32_34, l32_35, l32_39, l32_40, l32_44, l32_45, l32_46, l32_47, l32_48, l32_49, l32_57, l32_58, l32_59, l32_63, l32_64, l32_85, l32_90, l32_97, l32_99, l32_100, l32_110, l32_112, l32_122, l32_124, l32_125, l32_255, l32_680, l32_699, l32_700, l32_999, l32_2500, l32_99999, l32_100000, l32_1000000, if_true, if_false, ite_true, ite_false, ce_nm, Option.bind, if_pos, if_neg]; exact hfr) ?_
          show Ev (Option.bind (f12_otherOf F (nI en) h2) _) _
          rw [x_otherOf c2 hie]
          show Ev (if ce_in ((85 : Int32) + nI en) 125 = true then _ else none) _
          refine Ev.grd (by simp (disch := omega) only [up_s, up_k, up_j, mm_neg, mm_def, ni_lt, ni_le, ni_eq, ni_mm, mm_ni, ni_lt_mm, ni_le_mm, mm_lt_ni, mm_le_ni, mm_lt_mm, mm_le_mm, ni_cl, ni_in, nI_add, ni_mul, ni_div, ni_rem, ni_rem2, fr_sub, fr_mm, fr_ge0, fr_lt0, fr_inj, l32_0, l32_1, l32_2, l32_3, l32_4, l32_5, l32_6, l32_7, l32_8, l32_9, l32_10, l32_11, l32_12, l32_13, l32_14, l32_15, l32_16, l32_20, l32_24, l32_25, l32_26, l32_31, l32_32, l32_34, l32_35, l32_39, l32_40, l32_44, l32_45, l32_46, l32_47, l32_48, l32_49, l32_57, l32_58, l32_59, l32_63, l32_64, l32_85, l32_90, l32_97, l32_99, l32_100, l32_110, l32_112, l32_122, l32_124, l32_125, l32_255, l32_680, l32_699, l32_700, l32_999, l32_2500, l32_99999, l32_100000, l32_1000000, if_true, if_false, ite_true, ite_false, ce_nm, Option.bind, if_pos, if_neg]) ?_
          -- it leads to a child
          have hdown : (og m en - 1) / 4 ≠ a ∧ og m en - 1 = pe ((og m en - 1) / 4) := by
            rcases te en hie hz (by rw [hev]; exact hc) with ⟨z1, z2⟩ | z
            · exfalso
              rw [hev] at z1 z2
              have := hf2 z1
              rw [← z2] at this
              exact hfr this.symm
            · exact z
          obtain ⟨w, hw⟩ : ∃ w, w = (og m en - 1) / 4 := ⟨_, rfl⟩
          rw [← hw] at hdown
          have hw10 : w < 10 := by omega
          have hcw : Cn (og m) a w := by rw [hw]; exact Cn.step hie hz (by rw [hev]; exact hc)
          obtain ⟨q1, q2, q3, q4, q5, q6⟩ := hpe w hw10 hcw hdown.1
          rw [← hdown.2, g2] at q4 q5 q6
          have e6 : (en + 1 - 1) / 4 = v := by omega
          rw [e6] at q4 q5 q6
          have e7 : en + 1 - 1 = en := rfl
          rw [e7] at q6
          have fwo : fr (og m en) = nI (og m en - 1) := fr_p (by omega)
          have frn : nI en = fr (en + 1) := (fr_s en).symm
          have c85 := c2 (85 + en) (by omega)
          have c1' := c2 1 (by omega)
          have m85 := (ok.2.2.2.2 en hie hz).2.2.2.1
          have ihw := ih w (en + 1) h2 c2 hw10 hcw (by omega) (fun z => absurd z hdown.1) (fun _ => by rw [← hdown.2, g2])
          have e8 : hp w - 1 = hp v - 1 + 1 := by omega
          rw [e8, ← frn] at ihw
          have fin : ∀ h3 : Hp, (Lo h2 h3 hp dy ∧ ∀ u, u < 10 → Dn (og m) a pe w u → La h3 hp dy u) → (i < 4 ∧ nI en + 1 = nI (4 * v + (i + 1)) ∧ Lo h h3 hp dy ∧ La h3 hp dy v ∧ ∀ e, e < 4 * v + (i + 1) → e / 4 = v → og m e ≠ 0 → (og m e - 1) / 4 ≠ a → og m e - 1 = pe ((og m e - 1) / 4) → ∀ u, u < 10 → Dn (og m) a pe ((og m e - 1) / 4) u → La h3 hp dy u) := by
            rintro h3 ⟨j1, j2⟩
            refine ⟨by omega, nxt, i1.trans j1, j1.keep hv i2, fun e he1 he2 h0 h3' h4 u hu hdn => ?_⟩
            by_cases y : e = en
            · rw [y, ← hw] at hdn
              exact j2 u hu hdn
            · exact j1.keep hu (i3 e (by omega) he2 h0 h3' h4 u hu hdn)
          by_cases h1' : hp v = 1
          · refine Ev.pos (by simp (disch := omega) only [up_s, up_k, up_j, mm_neg, mm_def, ni_lt, ni_le, ni_eq, ni_mm, mm_ni, ni_lt_mm, ni_le_mm, mm_lt_ni, mm_le_ni, mm_lt_mm, mm_le_mm, ni_cl, ni_in, nI_add, ni_mul, ni_div, ni_rem, ni_rem2, fr_sub, fr_mm, fr_ge0, fr_lt0, fr_inj, l32_0, l32_1, l32_2, l32_3, l32_4, l32_5, l32_6, l32_7, l32_8, l32_9, l32_10, l32_11, l32_12, l32_13, l32_14, l32_15, l32_16, l32_20, l32_24, l32_25, l32_26, l32_31, l32_32, l32_34, l32_35, l32_39, l32_40, l32_44, l32_45, l32_46, l32_47, l32_48, l32_49, l32_57, l32_58, l32_59, l32_63, l32_64, l32_85, l32_90, l32_97, l32_99, l32_100, l32_110, l32_112, l32_122, l32_124, l32_125, l32_255, l32_680, l32_699, l32_700, l32_999, l32_2500, l32_99999, l32_100000, l32_1000000, if_true, if_false, ite_true, ite_false, ce_nm, Option.bind, if_pos, if_neg, h1']; omega) ?_
            rw [if_pos h1'] at q6
            have e9 : dy w - 1 = dy v - 1 + m (85 + en) := by omega
            rw [e9] at ihw
            have ex : ((nI (dy v - 1) + h2 69 ((85 : Int32) + nI en).toNatClampNeg) + (0 : Int32)) = nI (dy v - 1 + m (85 + en)) := by simp (disch := omega) only [up_s, up_k, up_j, mm_neg, mm_def, ni_lt, ni_le, ni_eq, ni_mm, mm_ni, ni_lt_mm, ni_le_mm, mm_lt_ni, mm_le_ni, mm_lt_mm, mm_le_mm, ni_cl, ni_in, nI_add, ni_mul, ni_div, ni_rem, ni_rem2, fr_sub, fr_mm, fr_ge0, fr_lt0, fr_inj, l32_0, l32_1, l32_2, l32_3, l32_4, l32_5, l32_6, l32_7, l32_8, l32_9, l32_10, l32_11, l32_12, l32_13, l32_14, l32_15, l32_16, l32_20, l32_24, l32_25, l32_26, l32_31, l32_32, l32_34, l32_35, l32_39, l32_40, l32_44, l32_45, l32_46, l32_47, l32_48, l32_49, l32_57, l32_58, l32_59, l32_63, l32_64, l32_85, l32_90, l32_97, l32_99, l32_100, l32_110, l32_112, l32_122, l32_124, l32_125, l32_255, l32_680, l32_699, l32_700, l32_999, l32_2500, l32_99999, l32_100000, l32_1000000, if_true, if_false, ite_true, ite_false, ce_nm, Option.bind, if_pos, if_neg, c85]; rfl
            have ew : fr (og m en) / (4 : Int32) = nI w := by rw [fwo, hw]; simp (disch := omega) only [up_s, up_k, up_j, mm_neg, mm_def, ni_lt, ni_le, ni_eq, ni_mm, mm_ni, ni_lt_mm, ni_le_mm, mm_lt_ni, mm_le_ni, mm_lt_mm, mm_le_mm, ni_cl, ni_in, nI_add, ni_mul, ni_div, ni_rem, ni_rem2, fr_sub, fr_mm, fr_ge0, fr_lt0, fr_inj, l32_0, l32_1, l32_2, l32_3, l32_4, l32_5, l32_6, l32_7, l32_8, l32_9, l32_10, l32_11, l32_12, l32_13, l32_14, l32_15, l32_16, l32_20, l32_24, l32_25, l32_26, l32_31, l32_32, l32_34, l32_35, l32_39, l32_40, l32_44, l32_45, l32_46, l32_47, l32_48, l32_49, l32_57, l32_58, l32_59, l32_63, l32_64, l32_85, l32_90, l32_97, l32_99, l32_100, l32_110, l32_112, l32_122, l32_124, l32_125, l32_255, l32_680, l32_699, l32_700, l32_999, l32_2500, l32_99999, l32_100000, l32_1000000, if_true, if_false, ite_true, ite_false, ce_nm, Option.bind, if_pos, if_neg]
            show Ev (Option.bind (f12_goesOut F d (fr (og m en) / (4 : Int32)) (nI en) ((nI (dy v - 1) + h2 69 ((85 : Int32) + nI en).toNatClampNeg) + (0 : Int32)) (nI (hp v - 1) + 1) h2) _) _
            rw [ex, ew, nI_1]
            exact Ev.bind ihw (fun h3 hh => Ev.some (fin h3 hh))
          · refine Ev.neg (by simp (disch := omega) only [up_s, up_k, up_j, mm_neg, mm_def, ni_lt, ni_le, ni_eq, ni_mm, mm_ni, ni_lt_mm, ni_le_mm, mm_lt_ni, mm_le_ni, mm_lt_mm, mm_le_mm, ni_cl, ni_in, nI_add, ni_mul, ni_div, ni_rem, ni_rem2, fr_sub, fr_mm, fr_ge0, fr_lt0, fr_inj, l32_0, l32_1, l32_2, l32_3, l32_4, l32_5, l32_6, l32_7, l32_8, l32_9, l32_10, l32_11, l32_12, l32_13, l32_14, l32_15, l32_16, l32_20, l32_24, l32_25, l32_26, l32_31, l32_32, l32_34, l32_35, l32_39, l32_40, l32_44, l32_45, l32_46, l32_47, l32_48, l32_49, l32_57, l32_58, l32_59, l32_63, l32_64, l32_85, l32_90, l32_97, l32_99, l32_100, l32_110, l32_112, l32_122, l32_124, l32_125, l32_255, l32_680, l32_699, l32_700, l32_999, l32_2500, l32_99999, l32_100000, l32_1000000, if_true, if_false, ite_true, ite_false, ce_nm, Option.bind, if_pos, if_neg]; omega) ?_
            rw [if_neg h1'] at q6
            have e9 : dy w - 1 = dy v - 1 + m (85 + en) + m 1 := by omega
            rw [e9] at ihw
            have ex : ((nI (dy v - 1) + h2 69 ((85 : Int32) + nI en).toNatClampNeg) + h2 69 (1 : Int32).toNatClampNeg) = nI (dy v - 1 + m (85 + en) + m 1) := by simp (disch := omega) only [up_s, up_k, up_j, mm_neg, mm_def, ni_lt, ni_le, ni_eq, ni_mm, mm_ni, ni_lt_mm, ni_le_mm, mm_lt_ni, mm_le_ni, mm_lt_mm, mm_le_mm, ni_cl, ni_in, nI_add, ni_mul, ni_div, ni_rem, ni_rem2, fr_sub, fr_mm, fr_ge0, fr_lt0, fr_inj, l32_0, l32_1, l32_2, l32_3, l32_4, l32_5, l32_6, l32_7, l32_8, l32_9, l32_10, l32_11, l32_12, l32_13, l32_14, l32_15, l32_16, l32_20, l32_24, l32_25, l32_26, l32_31, l32_32, l32_34, l32_35, l32_39, l32_40, l32_44, l32_45, l32_46, l32_47, l32_48, l32_49, l32_57, l32_58, l32_59, l32_63, l32_64, l32_85, l32_90, l32_97, l32_99, l32_100, l32_110, l32_112, l32_122, l32_124, l32_125, l32_255, l32_680, l32_699, l32_700, l32_999, l32_2500, l32_99999, l32_100000, l32_1000000, if_true, if_false, ite_true, ite_false, ce_nm, Option.bind, if_pos, if_neg, c85, c1']
            have ew : fr (og m en) / (4 : Int32) = nI w := by rw [fwo, hw]; simp (disch := omega) only [up_s, up_k, up_j, mm_neg, mm_def, ni_lt, ni_le, ni_eq, ni_mm, mm_ni, ni_lt_mm, ni_le_mm, mm_lt_ni, mm_le_ni, mm_lt_mm, mm_le_mm, ni_cl, ni_in, nI_add, ni_mul, ni_div, ni_rem, ni_rem2, fr_sub, fr_mm, fr_ge0, fr_lt0, fr_inj, l32_0, l32_1, l32_2, l32_3, l32_4, l32_5, l32_6, l32_7, l32_8, l32_9, l32_10, l32_11, l32_12, l32_13, l32_14, l32_15, l32_16, l32_20, l32_24, l32_25, l32_26, l32_31, l32_32, l32_34, l32_35, l32_39, l32_40, l32_44, l32_45, l32_46, l32_47, l32_48, l32_49, l32_57, l32_58, l32_59, l32_63, l32_64, l32_85, l32_90, l32_97, l32_99, l32_100, l32_110, l32_112, l32_122, l32_124, l32_125, l32_255, l32_680, l32_699, l32_700, l32_999, l32_2500, l32_99999, l32_100000, l32_1000000, if_true, if_false, ite_true, ite_false, ce_nm, Option.bind, if_pos, if_neg]
            show Ev (Option.bind (f12_goesOut F d (fr (og m en) / (4 : Int32)) (nI en) ((nI (dy v - 1) + h2 69 ((85 : Int32) + nI en).toNatClampNeg) + h2 69 (1 : Int32).toNatClampNeg) (nI (hp v - 1) + 1) h2) _) _
            rw [ex, ew, nI_1]
            exact Ev.bind ihw (fun h3 hh => Ev.some (fin h3 hh))
