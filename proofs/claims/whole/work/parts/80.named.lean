-- naming: the class's way down and up
theorem Ev.eq' {α : Type} {x y : Option α} (h : Ev x (fun r => Option.some r = y)) : x = y := by
  obtain ⟨r, a, b⟩ := h
  rw [a, b]
theorem CNw.fr' {h h0 : Hp} {k : Nat} {m : Nat → Nat} (c : CNw h0 k m) (hk : 7 ≤ k ∧ k ≤ 14) (f : ∀ c, c ≠ 63 → c ≠ 64 → h c = h0 c) : CNw h k m := by
  obtain ⟨a1, a2, a3, a4, a5⟩ := c
  exact ⟨by rw [f _ (by omega) (by omega)]; exact a1, by rw [f _ (by omega) (by omega)]; exact a2, fun v hv => by rw [f _ (by omega) (by omega)]; exact a3 v hv, fun e he => by rw [f _ (by omega) (by omega)]; exact a4 e he, fun e he h0 => by rw [f _ (by omega) (by omega)]; exact a5 e he h0⟩
theorem it_one {σ ρ : Type} {B : σ → Option (σ ⊕ ρ)} {x y : σ} (h : B x = some (.inl y)) (G : Nat) : ce_it B (G + 1) x = ce_it B G y := by
  show (match B x with | none => none | some (.inl y) => ce_it B G y | some (.inr r) => some r) = _
  rw [h]
/-- h0 but with the names so far -/
def NR (o : Nat → Nat) (r L : Nat) (h0 h : Hp) (st : Sn) : Prop := (∀ w, w < 10 → h 63 w = fr (st.2 w)) ∧ (∀ w, Cn o r w → st.2 w ≠ 0 → st.2 w ≤ st.1 ∧ h 64 (10 * L + (st.2 w - 1)) = nI w) ∧ (∀ j, st.1 ≤ j → j < 10 → h 64 (10 * L + j) = mm) ∧ (∀ j, (j < 10 * L ∨ 10 * L + 10 ≤ j) → h 64 j = h0 64 j) ∧ ∀ c, c ≠ 63 → c ≠ 64 → h c = h0 c
theorem ro_ch {o P : Nat → Nat} {r : Nat} {hp : Nat → Nat} (T : Tr o P r hp) {e : Nat} (he : e < 40) (hc : Cn o r (e / 4)) : (ro o P e = 2) ↔ ch o P e = true := by
  unfold ro
  constructor
  · intro h
    by_cases z : o e = 0
    · rw [if_pos z] at h; omega
    · rw [if_neg z] at h
      by_cases y : P (e / 4) = e + 1
      · rw [if_pos y] at h; omega
      · rw [if_neg y] at h
        by_cases x : ch o P e = true
        · exact x
        · rw [if_neg x] at h; omega
  · intro h
    obtain ⟨a1, a2, a3, a4, a5⟩ := T.chn he hc h
    have a0 := (ch_t.mp h).1
    rw [if_neg a0, if_neg, if_pos h]
    intro y
    have ne : e / 4 ≠ r := fun z => by rw [z, T.2.2.2.1] at y; omega
    have := (T.prn hc ne).2
    have e2 : pr o P (e / 4) = (o e - 1) / 4 := by
      unfold pr
      rw [y]
      rfl
    rw [e2] at this
    omega
theorem x_unnamed {m P id : Nat → Nat} {k kn r v F : Nat} {hp : Nat → Nat} {h : Hp} (ok : OkG m) (cn : CNw h kn m) (T : Tr (og m) P r hp) (hr : r < m 2) (cp : ∀ v, v < 10 → h (k + 4) v = fr (P v)) (hv : Cn (og m) r v) (h63 : ∀ w, w < 10 → h 63 w = fr (id w)) (hid : ∀ w, w < 10 → id w ≤ 100) (hF : 1000 ≤ F) :
    f4_firstUnnamedChild F kn k (nI v) h = some (if fi (fun p => ch (og m) P (4 * v + p) && decide (id ((og m (4 * v + p) - 1) / 4) = 0)) 4 = 0 then mm else nI ((og m (4 * v + (fi (fun p => ch (og m) P (4 * v + p) && decide (id ((og m (4 * v + p) - 1) / 4) = 0)) 4 - 1)) - 1) / 4), h) := by
  have g := ok.2.2.2.1
  have h2 := ok.2.1
  have po := T.2.1
  have hv2 : v < m 2 := cn_lt ok hv hr
  have hv10 : v < 10 := by omega
  have hP := (ok.2.2.1 v hv2).2
  have n3 := cn.2.2.1 v hv2
  have hfi : fi (fun p => ch (og m) P (4 * v + p) && decide (id ((og m (4 * v + p) - 1) / 4) = 0)) 4 = fi (fun p => ch (og m) P (4 * v + p) && decide (id ((og m (4 * v + p) - 1) / 4) = 0)) (m (5 + v)) := fi_ext hP (fun i h1 h3 => by
    have : ch (og m) P (4 * v + i) = false := by
      cases hc : ch (og m) P (4 * v + i) with
      | false => rfl
      | true =>
        have := (ok.2.2.2.2 (4 * v + i) (by omega) (ch_t.mp hc).1).2.1
        have e1 : (4 * v + i) % 4 = i := by omega
        have e2 : (4 * v + i) / 4 = v := by omega
        rw [e1, e2] at this
        omega
    rw [this]
    rfl)
  rw [hfi]
  unfold f4_firstUnnamedChild
  have L := find_it (B := fun st => f4_firstUnnamedChild_b3 F kn k (nI v) st.1 st.2) (fun p => ch (og m) P (4 * v + p) && decide (id ((og m (4 * v + p) - 1) / 4) = 0)) (fun p => (nI ((og m (4 * v + p) - 1) / 4), h)) (m (5 + v)) h (F := F) (by omega) (fun i hi hb => by
    show f4_firstUnnamedChild_b3 F kn k (nI v) (nI i) h = _
    have nxt : nI i + 1 = nI (i + 1) := nI_1 _
    refine Ev.eq' ?_
    unfold f4_firstUnnamedChild_b3
    refine Ev.grd (ni_in (by omega) hv10) ?_
    rw [ni_cl (by omega)]
    by_cases z : i = m (5 + v)
    · refine Ev.pos (by rw [n3, z]; simp (disch := omega) only [up_s, up_k, up_j, mm_neg, mm_def, ni_lt, ni_le, ni_eq, ni_mm, mm_ni, ni_lt_mm, ni_le_mm, mm_lt_ni, mm_le_ni, mm_lt_mm, mm_le_mm, ni_cl, ni_in, nI_add, ni_mul, ni_div, ni_rem, ni_rem2, fr_sub, fr_mm, fr_ge0, fr_lt0, fr_inj, l32_0, l32_1, l32_2, l32_3, l32_4, l32_5, l32_6, l32_7, l32_8, l32_9, l32_10, l32_11, l32_12, l32_13, l32_14, l32_15, l32_16, l32_20, l32_24, l32_25, l32_26, l32_31, l32_32, l32_34, l32_35, l32_39, l32_40, l32_44, l32_45, l32_46, l32_47, l32_48, l32_49, l32_57, l32_58, l32_59, l32_63, l32_64, l32_85, l32_90, l32_97, l32_99, l32_100, l32_110, l32_112, l32_122, l32_124, l32_125, l32_255, l32_680, l32_699, l32_700, l32_999, l32_2500, l32_99999, l32_100000, l32_1000000, if_true, if_false, ite_true, ite_false, ce_nm, Option.bind, if_pos, if_neg]; exact Nat.le_refl _) (Ev.some ?_)
      rw [if_pos z]
    · refine Ev.neg (by rw [n3]; simp (disch := omega) only [up_s, up_k, up_j, mm_neg, mm_def, ni_lt, ni_le, ni_eq, ni_mm, mm_ni, ni_lt_mm, ni_le_mm, mm_lt_ni, mm_le_ni, mm_lt_mm, mm_le_mm, ni_cl, ni_in, nI_add, ni_mul, ni_div, ni_rem, ni_rem2, fr_sub, fr_mm, fr_ge0, fr_lt0, fr_inj, l32_0, l32_1, l32_2, l32_3, l32_4, l32_5, l32_6, l32_7, l32_8, l32_9, l32_10, l32_11, l32_12, l32_13, l32_14, l32_15, l32_16, l32_20, l32_24, l32_25, l32_26, l32_31, l32_32, l32_34, l32_35, l32_39, l32_40, l32_44, l32_45, l32_46, l32_47, l32_48, l32_49, l32_57, l32_58, l32_59, l32_63, l32_64, l32_85, l32_90, l32_97, l32_99, l32_100, l32_110, l32_112, l32_122, l32_124, l32_125, l32_255, l32_680, l32_699, l32_700, l32_999, l32_2500, l32_99999, l32_100000, l32_1000000, if_true, if_false, ite_true, ite_false, ce_nm, Option.bind, if_pos, if_neg]; omega) ?_
      rw [if_neg z, x_endOf]
      refine ev_bs ?_
      dsimp only
      have he : 4 * v + i < 40 := by omega
      have ev : (4 * v + i) / 4 = v := by omega
      rw [x_roleOf ok cn po cp he]
      refine ev_bs ?_
      dsimp only
      have rl : ro (og m) P (4 * v + i) ≤ 3 := by
        unfold ro
        by_cases a : og m (4 * v + i) = 0
        · rw [if_pos a]; omega
        · rw [if_neg a]
          by_cases b : P ((4 * v + i) / 4) = 4 * v + i + 1
          · rw [if_pos b]; omega
          · rw [if_neg b]
            by_cases c : ch (og m) P (4 * v + i) = true
            · rw [if_pos c]; omega
            · rw [if_neg c]; omega
      have rc := ro_ch T he (by rw [ev]; exact hv)
      cases hch : ch (og m) P (4 * v + i) with
      | false =>
        rw [hch] at rc
        refine Ev.neg (by rw [l32_2, ni_eq (by omega) (by omega)]; intro q; exact absurd (rc.mp q) (by simp)) (Ev.some ?_)
        rw [if_neg (by simp), nxt]
      | true =>
        have h0 := (ch_t.mp hch).1
        have hog := og_le g he
        have n5 : h (kn + 5) (4 * v + i) = nI (og m (4 * v + i) - 1) := by rw [cn.2.2.2.1 _ he, fr_p (by omega)]
        refine Ev.pos (by rw [rc.mpr hch]; rfl) (Ev.grd (ni_in (by omega) he) ?_)
        rw [ni_cl (by omega), n5, x_nodeOf _ _ _ (by omega)]
        refine ev_bs ?_
        dsimp only
        refine Ev.grd (ni_in (by omega) (by omega)) ?_
        rw [ni_cl (by omega)]
        have e63 := h63 ((og m (4 * v + i) - 1) / 4) (by omega)
        have l63 := hid ((og m (4 * v + i) - 1) / 4) (by omega)
        by_cases y : id ((og m (4 * v + i) - 1) / 4) = 0
        · refine Ev.pos (by rw [e63, y]; rfl) (Ev.grd (ni_in (by omega) he) ?_)
          rw [n5, x_nodeOf _ _ _ (by omega)]
          refine ev_bs (Ev.some ?_)
          rw [if_pos (by simp [y])]
        · refine Ev.neg (by simp (disch := omega) only [up_s, up_k, up_j, mm_neg, mm_def, ni_lt, ni_le, ni_eq, ni_mm, mm_ni, ni_lt_mm, ni_le_mm, mm_lt_ni, mm_le_ni, mm_lt_mm, mm_le_mm, ni_cl, ni_in, nI_add, ni_mul, ni_div, ni_rem, ni_rem2, fr_sub, fr_mm, fr_ge0, fr_lt0, fr_inj, l32_0, l32_1, l32_2, l32_3, l32_4, l32_5, l32_6, l32_7, l32_8, l32_9, l32_10, l32_11, l32_12, l32_13, l32_14, l32_15, l32_16, l32_20, l32_24, l32_25, l32_26, l32_31, l32_32, l32_34, l32_35, l32_39, l32_40, l32_44, l32_45, l32_46, l32_47, l32_48, l32_49, l32_57, l32_58, l32_59, l32_63, l32_64, l32_85, l32_90, l32_97, l32_99, l32_100, l32_110, l32_112, l32_122, l32_124, l32_125, l32_255, l32_680, l32_699, l32_700, l32_999, l32_2500, l32_99999, l32_100000, l32_1000000, if_true, if_false, ite_true, ite_false, ce_nm, Option.bind, if_pos, if_neg, e63]; exact y) (Ev.some ?_)
          rw [if_neg (by simp [y]), nxt])
  rw [show ((0 : Int32), h) = (nI 0, h) from rfl, L]
  generalize fi (fun p => ch (og m) P (4 * v + p) && decide (id ((og m (4 * v + p) - 1) / 4) = 0)) (m (5 + v)) = q
  by_cases z : q = 0
  · rw [if_pos z, if_pos z]
    rfl
  · rw [if_neg z, if_neg z]
    rfl
def nB (F kn k L : Nat) (st : Int32 × Int32 × Int32 × Hp) : Option ((Int32 × Int32 × Int32 × Hp) ⊕ (Hp)) := f4_nameFrom_b9 F kn k (nI (10 * L)) st.1 st.2.1 st.2.2.1 st.2.2.2
theorem x_nameRun {m P : Nat → Nat} {k kn r L F : Nat} {hp : Nat → Nat} {h0 : Hp} (hkn : ce_isNet kn) (hk : ce_isEl k) (ok : OkG m) (T : Tr (og m) P r hp) (hr : r < m 2) (hL : L < 10) (cn : CNw h0 kn m) (cp : ∀ v, v < 10 → h0 (k + 4) v = fr (P v)) (hF : 1000 ≤ F) : ∀ f v st step h, Cn (og m) r v → 11 ≤ hp v + f → NR (og m) r L h0 h st → (∀ w, Cn (og m) r w → bl (og m) P hp v w → st.2 w = 0) → (∀ w, w < 10 → st.2 w ≤ 10) → (pn (og m) P f v st).1 ≤ 10 → step + 2 * ((pn (og m) P f v st).1 - st.1) ≤ 21 →
    ∃ h', NR (og m) r L h0 h' (pn (og m) P f v st) ∧ (∀ w, w < 10 → (pn (og m) P f v st).2 w ≤ 10) ∧ ∀ G, ce_it (nB F kn k L) (G + (2 * ((pn (og m) P f v st).1 - st.1) - 1)) (nI v, nI st.1, nI step, h) = ce_it (nB F kn k L) G (fr (par (og m) P v), nI (pn (og m) P f v st).1, nI (step + (2 * ((pn (og m) P f v st).1 - st.1) - 1)), h') := by
  have bk := el_ge hk
  have bn := net_le hkn
  have po := T.2.1
  have h2 := ok.2.1
  intro f
  induction f with
  | zero =>
    intro v st step h hv hf
    have := (T.2.2.2.2.2.1 v (T.lt hv) hv).2
    omega
  | succ f ih =>
    intro v st step h hv hf nr unn idb n10 hstep
    have hv10 := T.lt hv
    have hv2 : v < m 2 := cn_lt ok hv hr
    have sp := fun p hp4 => pl_spec T (f := f) (v := v) (st := st) hv hf p hp4
    rw [pn_s] at n10 hstep
    dsimp only at n10 hstep
    have mono : ∀ p, p < 4 → (pl (og m) P (pn (og m) P f) v p st).1 ≤ (pl (og m) P (pn (og m) P f) v (p + 1) st).1 := fun p hp4 => by
      rw [pl_s]
      cases hch : ch (og m) P (4 * v + p) with
      | false => rw [if_neg (by simp)]; exact Nat.le_refl _
      | true =>
        rw [if_pos rfl]
        have ev : (4 * v + p) / 4 = v := by omega
        obtain ⟨c1, c2, c3, c4, c5⟩ := T.chn (e := 4 * v + p) (by omega) (by rw [ev]; exact hv) hch
        rw [ev] at c4
        exact Nat.le_of_lt (pn_lt T c1 (by omega))
    have mono4 : ∀ p, p ≤ 4 → (pl (og m) P (pn (og m) P f) v p st).1 ≤ (pl (og m) P (pn (og m) P f) v 4 st).1 := fun p hp4 => by
      have m0 := mono 0 (by omega)
      have m1 := mono 1 (by omega)
      have m2 := mono 2 (by omega)
      have m3 := mono 3 (by omega)
      obtain z | z | z | z | z : p = 0 ∨ p = 1 ∨ p = 2 ∨ p = 3 ∨ p = 4 := by omega
      · rw [z]; exact Nat.le_trans m0 (Nat.le_trans m1 (Nat.le_trans m2 m3))
      · rw [z]; exact Nat.le_trans m1 (Nat.le_trans m2 m3)
      · rw [z]; exact Nat.le_trans m2 m3
      · rw [z]; exact m3
      · rw [z]; exact Nat.le_refl _
    -- below v, not below the children so far: as before
    have notB : ∀ p w, p < 4 → ch (og m) P (4 * v + p) = true → Cn (og m) r w → bl (og m) P hp ((og m (4 * v + p) - 1) / 4) w → (pl (og m) P (pn (og m) P f) v p st).2 w = 0 := fun p w hp4 hch hw hb => by
      have ev : (4 * v + p) / 4 = v := by omega
      obtain ⟨c1, c2, c3, c4, c5⟩ := T.chn (e := 4 * v + p) (by omega) (by rw [ev]; exact hv) hch
      rw [ev] at c3 c4
      rw [(sp p (by omega)).2.1 w (fun ⟨_, q, q1, q2, q3⟩ => T.dis hv (by omega : q < 4) hp4 (by omega) q2 hch q3 hb)]
      exact unn w hw (bl_up (r := r) c3 c4 hb)
    have cl : ∀ p, p ≤ 4 → ∃ h', NR (og m) r L h0 h' (pl (og m) P (pn (og m) P f) v p st) ∧ (∀ w, w < 10 → (pl (og m) P (pn (og m) P f) v p st).2 w ≤ 10) ∧ ∀ G, ce_it (nB F kn k L) (G + 2 * ((pl (og m) P (pn (og m) P f) v p st).1 - st.1)) (nI v, nI st.1, nI step, h) = ce_it (nB F kn k L) G (nI v, nI (pl (og m) P (pn (og m) P f) v p st).1, nI (step + 2 * ((pl (og m) P (pn (og m) P f) v p st).1 - st.1)), h') := by
      intro p
      induction p with
      | zero =>
        intro _
        refine ⟨h, nr, idb, fun G => ?_⟩
        have e0 : pl (og m) P (pn (og m) P f) v 0 st = st := rfl
        rw [e0, Nat.sub_self]
        rfl
      | succ p ihp =>
        intro hp4
        obtain ⟨h1, nr1, id1, run1⟩ := ihp (by omega)
        have i1 := (sp p (by omega)).1
        have m1 := mono p (by omega)
        have m4 := mono4 (p + 1) hp4
        have ps := pl_s (og m) P (pn (og m) P f) v p st
        cases hch : ch (og m) P (4 * v + p) with
        | false =>
          rw [hch, if_neg (by simp)] at ps
          rw [ps]
          exact ⟨h1, nr1, id1, run1⟩
        | true =>
          rw [hch, if_pos rfl] at ps
          have ev : (4 * v + p) / 4 = v := by omega
          obtain ⟨c1, c2, c3, c4, c5⟩ := T.chn (e := 4 * v + p) (by omega) (by rw [ev]; exact hv) hch
          rw [ev] at c3 c4
          have lt := pn_lt T (st := pl (og m) P (pn (og m) P f) v p st) c1 (by omega : 11 ≤ hp ((og m (4 * v + p) - 1) / 4) + f)
          have nb := notB p
          have spp := (sp p (by omega)).2.2.1
          rw [ps] at m1 m4 ⊢
          generalize hs1 : pl (og m) P (pn (og m) P f) v p st = s1 at nr1 id1 run1 i1 m1 m4 lt nb spp ⊢
          obtain ⟨c, hc⟩ : ∃ c, c = (og m (4 * v + p) - 1) / 4 := ⟨_, rfl⟩
          rw [← hc] at c1 c2 c3 c4 c5 lt m1 m4 nb ⊢
          obtain ⟨h3, nr3, id3, run3⟩ := ih c s1 (step + 2 * (s1.1 - st.1) + 1) h1 c1 (by omega) nr1 (fun w hw hb => nb w (by omega) hch hw hb) id1 (by omega) (by omega)
          refine ⟨h3, nr3, id3, fun G => ?_⟩
          generalize hs2 : pn (og m) P f c s1 = s2 at nr3 id3 run3 lt m1 m4 ⊢
          have stepc : nB F kn k L (nI v, nI s1.1, nI (step + 2 * (s1.1 - st.1)), h1) = some (.inl (nI c, nI s1.1, nI (step + 2 * (s1.1 - st.1) + 1), h1)) := by
            refine Ev.eq ?_
            show Ev (f4_nameFrom_b9 F kn k (nI (10 * L)) (nI v) (nI s1.1) (nI (step + 2 * (s1.1 - st.1))) h1) _
            unfold f4_nameFrom_b9
            refine Ev.neg (by simp (disch := omega) only [up_s, up_k, up_j, mm_neg, mm_def, ni_lt, ni_le, ni_eq, ni_mm, mm_ni, ni_lt_mm, ni_le_mm, mm_lt_ni, mm_le_ni, mm_lt_mm, mm_le_mm, ni_cl, ni_in, nI_add, ni_mul, ni_div, ni_rem, ni_rem2, fr_sub, fr_mm, fr_ge0, fr_lt0, fr_inj, l32_0, l32_1, l32_2, l32_3, l32_4, l32_5, l32_6, l32_7, l32_8, l32_9, l32_10, l32_11, l32_12, l32_13, l32_14, l32_15, l32_16, l32_20, l32_24, l32_25, l32_26, l32_31, l32_32, l32_34, l32_35, l32_39, l32_40, l32_44, l32_45, l32_46, l32_47, l32_48, l32_49, l32_57, l32_58, l32_59, l32_63, l32_64, l32_85, l32_90, l32_97, l32_99, l32_100, l32_110, l32_112, l32_122, l32_124, l32_125, l32_255, l32_680, l32_699, l32_700, l32_999, l32_2500, l32_99999, l32_100000, l32_1000000, if_true, if_false, ite_true, ite_false, ce_nm, Option.bind, if_pos, if_neg]; omega) (Ev.neg (by simp (disch := omega) only [up_s, up_k, up_j, mm_neg, mm_def, ni_lt, ni_le, ni_eq, ni_mm, mm_ni, ni_lt_mm, ni_le_mm, mm_lt_ni, mm_le_ni, mm_lt_mm, mm_le_mm, ni_cl, ni_in, nI_add, ni_mul, ni_div, ni_rem, ni_rem2, fr_sub, fr_mm, fr_ge0, fr_lt0, fr_inj, l32_0, l32_1, l32_2, l32_3, l32_4, l32_5, l32_6, l32_7, l32_8, l32_9, l32_10, l32_11, l32_12, l32_13, l32_14, l32_15, l32_16, l32_20, l32_24, l32_25, l32_26, l32_31, l32_32, l32_34, l32_35, l32_39, l32_40, l32_44, l32_45, l32_46, l32_47, l32_48, l32_49, l32_57, l32_58, l32_59, l32_63, l32_64, l32_85, l32_90, l32_97, l32_99, l32_100, l32_110, l32_112, l32_122, l32_124, l32_125, l32_255, l32_680, l32_699, l32_700, l32_999, l32_2500, l32_99999, l32_100000, l32_1000000, if_true, if_false, ite_true, ite_false, ce_nm, Option.bind, if_pos, if_neg]; exact _root_.id) ?_)
            rw [x_unnamed (id := s1.2) ok (cn.fr' bn nr1.2.2.2.2) T hr (fun v hv => by rw [nr1.2.2.2.2 _ (by omega) (by omega)]; exact cp v hv) hv nr1.1 (fun w hw => by have := id1 w hw; omega) hF]
            have fq : fi (fun p => ch (og m) P (4 * v + p) && decide (s1.2 ((og m (4 * v + p) - 1) / 4) = 0)) 4 = p + 1 := by
              refine fi_some (by omega) ?_ (fun i hi => ?_)
              · have := nb c (by omega) hch c1 (bl_self _ _ _ _)
                rw [hch, ← hc, this]
                rfl
              · cases hci : ch (og m) P (4 * v + i) with
                | false => rfl
                | true =>
                  have evi : (4 * v + i) / 4 = v := by omega
                  obtain ⟨d1, d2, d3, d4, d5⟩ := T.chn (e := 4 * v + i) (by omega) (by rw [evi]; exact hv) hci
                  have := (spp _ ⟨d1, i, hi, hci, bl_self _ _ _ _⟩).1
                  have ne : s1.2 ((og m (4 * v + i) - 1) / 4) ≠ 0 := by omega
                  simp [ne]
            rw [fq, if_neg (by omega), show p + 1 - 1 = p from rfl, ← hc]
            refine ev_bs ?_
            dsimp only
            have hc10 := T.lt c1
            exact Ev.neg (by simp (disch := omega) only [up_s, up_k, up_j, mm_neg, mm_def, ni_lt, ni_le, ni_eq, ni_mm, mm_ni, ni_lt_mm, ni_le_mm, mm_lt_ni, mm_le_ni, mm_lt_mm, mm_le_mm, ni_cl, ni_in, nI_add, ni_mul, ni_div, ni_rem, ni_rem2, fr_sub, fr_mm, fr_ge0, fr_lt0, fr_inj, l32_0, l32_1, l32_2, l32_3, l32_4, l32_5, l32_6, l32_7, l32_8, l32_9, l32_10, l32_11, l32_12, l32_13, l32_14, l32_15, l32_16, l32_20, l32_24, l32_25, l32_26, l32_31, l32_32, l32_34, l32_35, l32_39, l32_40, l32_44, l32_45, l32_46, l32_47, l32_48, l32_49, l32_57, l32_58, l32_59, l32_63, l32_64, l32_85, l32_90, l32_97, l32_99, l32_100, l32_110, l32_112, l32_122, l32_124, l32_125, l32_255, l32_680, l32_699, l32_700, l32_999, l32_2500, l32_99999, l32_100000, l32_1000000, if_true, if_false, ite_true, ite_false, ce_nm, Option.bind, if_pos, if_neg]; exact _root_.id) (Ev.some (by rw [show nI (step + 2 * (s1.1 - st.1)) + 1 = nI (step + 2 * (s1.1 - st.1) + 1) from nI_1 _]))
          have parc : par (og m) P c = v + 1 := by
            unfold par
            have : P c ≠ 0 := by rw [c5]; exact (ch_t.mp hch).1
            rw [if_neg this]
            have c3' := c3
            unfold pr at c3'
            rw [c3']
          have eG : G + 2 * (s2.1 - st.1) = (G + (2 * (s2.1 - s1.1) - 1) + 1) + 2 * (s1.1 - st.1) := by omega
          rw [eG, run1, it_one stepc, run3, parc, fr_s, show step + 2 * (s1.1 - st.1) + 1 + (2 * (s2.1 - s1.1) - 1) = step + 2 * (s2.1 - st.1) by omega]
    obtain ⟨h1, nr1, id1, run1⟩ := cl 4 (by omega)
    have i1 := (sp 4 (by omega)).1
    have spp := (sp 4 (by omega)).2.2.1
    rw [pn_s]
    generalize hs1 : pl (og m) P (pn (og m) P f) v 4 st = s1 at nr1 id1 run1 i1 spp n10 hstep ⊢
    dsimp only
    obtain ⟨q1, q2, q3, q4, q5⟩ := nr1
    have nv : s1.1 < 10 := by omega
    refine ⟨hp_up (hp_up h1 63 v (nI s1.1)) 64 (10 * L + s1.1) (nI v), ⟨fun w hw => ?_, fun w hw hn => ?_, fun j h3 h4 => ?_, fun j hj => ?_, fun c hc1 hc2 => ?_⟩, fun w hw => ?_, fun G => ?_⟩
    · rw [up_k _ _ _ _ _ _ (by omega)]
      dsimp only
      by_cases z : w = v
      · rw [z, up_s, un_s, fr_s]
      · rw [up_j _ _ _ _ _ z, un_n z]; exact q1 w hw
    · dsimp only at hn ⊢
      by_cases z : w = v
      · rw [z, un_s]
        refine ⟨Nat.le_refl _, ?_⟩
        rw [show s1.1 + 1 - 1 = s1.1 from rfl, up_s]
      · rw [un_n z] at hn ⊢
        have := q2 w hw hn
        refine ⟨by omega, ?_⟩
        rw [up_j _ _ _ _ _ (by omega), up_k _ _ _ _ _ _ (by omega)]
        exact this.2
    · dsimp only at h3
      rw [up_j _ _ _ _ _ (by omega), up_k _ _ _ _ _ _ (by omega)]
      exact q3 j (by omega) h4
    · rw [up_j _ _ _ _ _ (by omega), up_k _ _ _ _ _ _ (by omega)]
      exact q4 j hj
    · rw [up_kk _ _ _ _ _ hc2, up_kk _ _ _ _ _ hc1]
      exact q5 c hc1 hc2
    · by_cases z : w = v
      · rw [z, un_s]; omega
      · rw [un_n z]; exact id1 w hw
    · have stepc : nB F kn k L (nI v, nI s1.1, nI (step + 2 * (s1.1 - st.1)), h1) = some (.inl (fr (par (og m) P v), nI (s1.1 + 1), nI (step + 2 * (s1.1 - st.1) + 1), hp_up (hp_up h1 63 v (nI s1.1)) 64 (10 * L + s1.1) (nI v))) := by
        refine Ev.eq ?_
        show Ev (f4_nameFrom_b9 F kn k (nI (10 * L)) (nI v) (nI s1.1) (nI (step + 2 * (s1.1 - st.1))) h1) _
        unfold f4_nameFrom_b9
        refine Ev.neg (by simp (disch := omega) only [up_s, up_k, up_j, mm_neg, mm_def, ni_lt, ni_le, ni_eq, ni_mm, mm_ni, ni_lt_mm, ni_le_mm, mm_lt_ni, mm_le_ni, mm_lt_mm, mm_le_mm, ni_cl, ni_in, nI_add, ni_mul, ni_div, ni_rem, ni_rem2, fr_sub, fr_mm, fr_ge0, fr_lt0, fr_inj, l32_0, l32_1, l32_2, l32_3, l32_4, l32_5, l32_6, l32_7, l32_8, l32_9, l32_10, l32_11, l32_12, l32_13, l32_14, l32_15, l32_16, l32_20, l32_24, l32_25, l32_26, l32_31, l32_32, l32_34, l32_35, l32_39, l32_40, l32_44, l32_45, l32_46, l32_47, l32_48, l32_49, l32_57, l32_58, l32_59, l32_63, l32_64, l32_85, l32_90, l32_97, l32_99, l32_100, l32_110, l32_112, l32_122, l32_124, l32_125, l32_255, l32_680, l32_699, l32_700, l32_999, l32_2500, l32_99999, l32_100000, l32_1000000, if_true, if_false, ite_true, ite_false, ce_nm, Option.bind, if_pos, if_neg]; omega) (Ev.neg (by simp (disch := omega) only [up_s, up_k, up_j, mm_neg, mm_def, ni_lt, ni_le, ni_eq, ni_mm, mm_ni, ni_lt_mm, ni_le_mm, mm_lt_ni, mm_le_ni, mm_lt_mm, mm_le_mm, ni_cl, ni_in, nI_add, ni_mul, ni_div, ni_rem, ni_rem2, fr_sub, fr_mm, fr_ge0, fr_lt0, fr_inj, l32_0, l32_1, l32_2, l32_3, l32_4, l32_5, l32_6, l32_7, l32_8, l32_9, l32_10, l32_11, l32_12, l32_13, l32_14, l32_15, l32_16, l32_20, l32_24, l32_25, l32_26, l32_31, l32_32, l32_34, l32_35, l32_39, l32_40, l32_44, l32_45, l32_46, l32_47, l32_48, l32_49, l32_57, l32_58, l32_59, l32_63, l32_64, l32_85, l32_90, l32_97, l32_99, l32_100, l32_110, l32_112, l32_122, l32_124, l32_125, l32_255, l32_680, l32_699, l32_700, l32_999, l32_2500, l32_99999, l32_100000, l32_1000000, if_true, if_false, ite_true, ite_false, ce_nm, Option.bind, if_pos, if_neg]; exact _root_.id) ?_)
        rw [x_unnamed (id := s1.2) ok (cn.fr' bn q5) T hr (fun v hv => by rw [q5 _ (by omega) (by omega)]; exact cp v hv) hv q1 (fun w hw => by have := id1 w hw; omega) hF]
        have fq : fi (fun p => ch (og m) P (4 * v + p) && decide (s1.2 ((og m (4 * v + p) - 1) / 4) = 0)) 4 = 0 := by
          refine fi_none (fun i hi => ?_)
          cases hci : ch (og m) P (4 * v + i) with
          | false => rfl
          | true =>
            have evi : (4 * v + i) / 4 = v := by omega
            obtain ⟨d1, d2, d3, d4, d5⟩ := T.chn (e := 4 * v + i) (by omega) (by rw [evi]; exact hv) hci
            have := (spp _ ⟨d1, i, hi, hci, bl_self _ _ _ _⟩).1
            have ne : s1.2 ((og m (4 * v + i) - 1) / 4) ≠ 0 := by omega
            simp [ne]
        rw [fq, if_pos rfl]
        refine ev_bs ?_
        dsimp only
        refine Ev.pos rfl (Ev.grd (ni_in (by omega) hv10) (Ev.nm (Ev.neg (by simp (disch := omega) only [up_s, up_k, up_j, mm_neg, mm_def, ni_lt, ni_le, ni_eq, ni_mm, mm_ni, ni_lt_mm, ni_le_mm, mm_lt_ni, mm_le_ni, mm_lt_mm, mm_le_mm, ni_cl, ni_in, nI_add, ni_mul, ni_div, ni_rem, ni_rem2, fr_sub, fr_mm, fr_ge0, fr_lt0, fr_inj, l32_0, l32_1, l32_2, l32_3, l32_4, l32_5, l32_6, l32_7, l32_8, l32_9, l32_10, l32_11, l32_12, l32_13, l32_14, l32_15, l32_16, l32_20, l32_24, l32_25, l32_26, l32_31, l32_32, l32_34, l32_35, l32_39, l32_40, l32_44, l32_45, l32_46, l32_47, l32_48, l32_49, l32_57, l32_58, l32_59, l32_63, l32_64, l32_85, l32_90, l32_97, l32_99, l32_100, l32_110, l32_112, l32_122, l32_124, l32_125, l32_255, l32_680, l32_699, l32_700, l32_999, l32_2500, l32_99999, l32_100000, l32_1000000, if_true, if_false, ite_true, ite_false, ce_nm, Option.bind, if_pos, if_neg]; omega) ?_)))
        rw [nI_add]
        refine Ev.grd (ni_in (by omega) (by omega)) (Ev.nm ?_)
        rw [ni_cl (by omega), ni_cl (by omega)]
        have qq : ∀ c, c ≠ 63 → c ≠ 64 → hp_up (hp_up h1 63 v (nI s1.1)) 64 (10 * L + s1.1) (nI v) c = h0 c := fun c hc1 hc2 => by
          rw [up_kk _ _ _ _ _ hc2, up_kk _ _ _ _ _ hc1]
          exact q5 c hc1 hc2
        rw [x_cparent ok (cn.fr' bn qq) po (fun v hv => by rw [qq _ (by omega) (by omega)]; exact cp v hv) hv10]
        refine ev_bs (Ev.some ?_)
        rw [show nI s1.1 + 1 = nI (s1.1 + 1) from nI_1 _, show nI (step + 2 * (s1.1 - st.1)) + 1 = nI (step + 2 * (s1.1 - st.1) + 1) from nI_1 _]
      have eG : G + (2 * (s1.1 + 1 - st.1) - 1) = (G + 1) + 2 * (s1.1 - st.1) := by omega
      rw [eG, run1, it_one stepc, show step + (2 * (s1.1 + 1 - st.1) - 1) = step + 2 * (s1.1 - st.1) + 1 by omega]
