-- naming: the class's handOn
theorem it_end {σ ρ : Type} {B : σ → Option (σ ⊕ ρ)} {x : σ} {r : ρ} (h : B x = some (.inr r)) (G : Nat) : ce_it B (G + 1) x = some r := by
  show (match B x with | none => none | some (.inl y) => ce_it B G y | some (.inr r) => some r) = _
  rw [h]
theorem x_nameFrom {m P id : Nat → Nat} {k kn r L F : Nat} {hp : Nat → Nat} {h : Hp} (hkn : ce_isNet kn) (hk : ce_isEl k) (ok : OkG m) (T : Tr (og m) P r hp) (hr : r < m 2) (hL : L < 10) (cn : CNw h kn m) (cp : ∀ v, v < 10 → h (k + 4) v = fr (P v)) (h63 : ∀ w, w < 10 → h 63 w = fr (id w)) (hid : ∀ w, w < 10 → id w ≤ 10) (hz : ∀ w, Cn (og m) r w → id w = 0) (h64 : ∀ j, j < 10 → h 64 (10 * L + j) = mm) (hF : 1000 ≤ F) :
    Ev (f4_nameFrom F kn k (nI r) (nI (10 * L)) h) (fun h' => NR (og m) r L h h' (pn (og m) P 12 r (0, id)) ∧ ∀ w, w < 10 → (pn (og m) P 12 r (0, id)).2 w ≤ 10) := by
  have h1 := T.2.2.2.2.1
  have n1 : (pn (og m) P 12 r (0, id)).1 = sz (og m) r := by
    rw [← ids_sz T]
    exact (pn_ind (og m) P 12 r (0, id) (0, fun _ => 0) rfl).1
  have s10 : sz (og m) r ≤ 10 := ct_le _ _
  have lt := pn_lt T (st := (0, id)) (Cn.refl (og m) r) (by omega : 11 ≤ hp r + 12)
  dsimp only at lt
  obtain ⟨h', nr, idb, run⟩ := x_nameRun (L := L) (h0 := h) hkn hk ok T hr hL cn cp hF 12 r (0, id) 0 h (Cn.refl _ _) (by omega) ⟨h63, fun w hw hn => absurd (hz w hw) hn, fun j _ h4 => h64 j h4, fun _ _ => rfl, fun _ _ _ => rfl⟩ (fun w hw _ => hz w hw) hid (by omega) (by dsimp only; omega)
  generalize hS : pn (og m) P 12 r (0, id) = S at *
  dsimp only at run
  obtain ⟨G, hG⟩ : ∃ G, F = (G + 1) + (2 * (S.1 - 0) - 1) := ⟨F - 1 - (2 * (S.1 - 0) - 1), by omega⟩
  have pz : par (og m) P r = 0 := by unfold par; rw [if_pos T.2.2.2.1]
  unfold f4_nameFrom
  have e : ce_it (fun (st : Int32 × Int32 × Int32 × Hp) => f4_nameFrom_b9 F kn k (nI (10 * L)) st.1 st.2.1 st.2.2.1 st.2.2.2) F (nI r, (0 : Int32), (0 : Int32), h) = some h' := by
    show ce_it (nB F kn k L) F (nI r, nI 0, nI 0, h) = some h'
    have r1 := run (G + 1)
    rw [← hG] at r1
    rw [r1, pz, fr_0]
    have one : nB F kn k L (mm, nI S.1, nI (0 + (2 * (S.1 - 0) - 1)), h') = some (.inr h') := by
      refine Ev.eq ?_
      show Ev (f4_nameFrom_b9 F kn k (nI (10 * L)) mm (nI S.1) (nI (0 + (2 * (S.1 - 0) - 1))) h') _
      unfold f4_nameFrom_b9
      exact Ev.neg (by simp (disch := omega) only [up_s, up_k, up_j, mm_neg, mm_def, ni_lt, ni_le, ni_eq, ni_mm, mm_ni, ni_lt_mm, ni_le_mm, mm_lt_ni, mm_le_ni, mm_lt_mm, mm_le_mm, ni_cl, ni_in, nI_add, ni_mul, ni_div, ni_rem, ni_rem2, fr_sub, fr_mm, fr_ge0, fr_lt0, fr_inj, l32_0, l32_1, l32_2, l32_3, l32_4, l32_5, l32_6, l32_7, l32_8, l32_9, l32_10, l32_11, l32_12, l32_13, l32_14, l32_15, l32_16, l32_20, l32_24, l32_25, l32_26, l32_31, l32_32, l32_34, l32_35, l32_39, l32_40, l32_44, l32_45, l32_46, l32_47, l32_48, l32_49, l32_57, l32_58, l32_59, l32_63, l32_64, l32_85, l32_90, l32_97, l32_99, l32_100, l32_110, l32_112, l32_122, l32_124, l32_125, l32_255, l32_680, l32_699, l32_700, l32_999, l32_2500, l32_99999, l32_100000, l32_1000000, if_true, if_false, ite_true, ite_false, ce_nm, Option.bind, if_pos, if_neg]; omega) (Ev.pos rfl (Ev.some rfl))
    exact it_end one G
  rw [e]
  exact ev_bs (Ev.some ⟨nr, idb⟩)
/-- the class's names -/
def NM (h : Hp) (m P R : Nat → Nat) : Prop := ∀ r, r < m 2 → R r ≠ 0 → (∀ w, Cn (og m) r w → h 63 w = fr (ids (og m) P r w) ∧ h 64 (10 * lst (og m) r + (ids (og m) P r w - 1)) = nI w) ∧ ∀ j, sz (og m) r ≤ j → j < 10 → h 64 (10 * lst (og m) r + j) = mm
/-- the roots stand for trees, one for each -/
def RT (m P R : Nat → Nat) : Prop := (∀ r, r < m 2 → R r ≠ 0 → ∃ hp, Tr (og m) P r hp) ∧ (∀ r r', r < m 2 → r' < m 2 → R r ≠ 0 → R r' ≠ 0 → Cn (og m) r r' → r' = r) ∧ ∀ a, a < m 2 → (∃ r, r < m 2 ∧ Cn (og m) a r ∧ R r ≠ 0) ∨ (sz (og m) a ≤ cb (og m) a ∧ ∀ r, Cn (og m) a r → R r = 0)
theorem x_handOn {m P R : Nat → Nat} {k kn F : Nat} {h : Hp} (hk : ce_isEl k) (ok : OkG m) (c : CS h kn m) (rt : RT m P R) (cp : ∀ v, v < 10 → h (k + 2) v = fr (R v) ∧ h (k + 4) v = fr (P v)) (hR : ∀ v, v < 10 → R v < 100000) (hF : 1000 ≤ F) :
    Ev (f4_handOn F kn k h) (fun h' => Fr 63 64 h h' ∧ NM h' m P R) := by
  have bk := el_ge hk
  have hkn := c.2.1
  have bn := net_le hkn
  have h2 := ok.2.1
  have g := ok.2.2.2.1
  unfold f4_handOn
  refine Ev.bind (x_fill (by omega) (by omega)) (fun h1 a1 => ?_)
  refine Ev.bind (x_fill (by omega) (by omega)) (fun h2' a2 => ?_)
  have f2 : Fr 63 64 h h2' := fun c hc => by rw [a2.1 c (by omega), a1.1 c (by omega)]
  refine Ev.bind (P := fun h' => Fr 63 64 h h' ∧ NM h' m P R) ?_ (fun r hr => Ev.some hr)
  refine Ev.it (I := fun i st => st.1 = nI i ∧ Fr 63 64 h st.2 ∧ (∃ id : Nat → Nat, (∀ w, w < 10 → st.2 63 w = fr (id w)) ∧ (∀ w, w < 10 → id w ≤ 10) ∧ ∀ w, w < 10 → (∀ r, r < i → R r ≠ 0 → ¬ Cn (og m) r w) → id w = 0) ∧ (∀ L, L < 10 → (∀ r, r < i → R r ≠ 0 → lst (og m) r ≠ L) → ∀ j, j < 10 → st.2 64 (10 * L + j) = mm) ∧ ∀ r, r < i → R r ≠ 0 → (∀ w, Cn (og m) r w → st.2 63 w = fr (ids (og m) P r w) ∧ st.2 64 (10 * lst (og m) r + (ids (og m) P r w - 1)) = nI w) ∧ ∀ j, sz (og m) r ≤ j → j < 10 → st.2 64 (10 * lst (og m) r + j) = mm) _ (m 2) ?_ F 0 _ (by omega) (by omega) ⟨rfl, f2, ⟨fun _ => 0, fun w hw => ?_, fun _ _ => Nat.zero_le _, fun _ _ _ => rfl⟩, fun L hL _ j hj => ?_, fun r hr => absurd hr (by omega)⟩
  rotate_left
  · show h2' 63 w = _
    rw [a2.1 63 (by omega), a1.2 w hw]; rfl
  · exact a2.2 (10 * L + j) (by omega)
  rintro i ⟨x, h3⟩ hi hI
  obtain ⟨rfl, f3, ⟨id, id1, id2, id3⟩, e64, done⟩ : x = nI i ∧ Fr 63 64 h h3 ∧ (∃ id : Nat → Nat, (∀ w, w < 10 → h3 63 w = fr (id w)) ∧ (∀ w, w < 10 → id w ≤ 10) ∧ ∀ w, w < 10 → (∀ r, r < i → R r ≠ 0 → ¬ Cn (og m) r w) → id w = 0) ∧ (∀ L, L < 10 → (∀ r, r < i → R r ≠ 0 → lst (og m) r ≠ L) → ∀ j, j < 10 → h3 64 (10 * L + j) = mm) ∧ ∀ r, r < i → R r ≠ 0 → (∀ w, Cn (og m) r w → h3 63 w = fr (ids (og m) P r w) ∧ h3 64 (10 * lst (og m) r + (ids (og m) P r w - 1)) = nI w) ∧ ∀ j, sz (og m) r ≤ j → j < 10 → h3 64 (10 * lst (og m) r + j) = mm := hI
  show Ev (f4_handOn_b19 F kn k (nI i) h3) _
  have c3 := c.fr f3 (by omega)
  have n3 : h3 kn 3 = nI (m 2) := c3.2.2.1.2.1
  have nxt : nI i + 1 = nI (i + 1) := nI_1 _
  unfold f4_handOn_b19
  by_cases hin : m 2 ≤ i
  · refine Ev.pos (by simp (disch := omega) only [up_s, up_k, up_j, mm_neg, mm_def, ni_lt, ni_le, ni_eq, ni_mm, mm_ni, ni_lt_mm, ni_le_mm, mm_lt_ni, mm_le_ni, mm_lt_mm, mm_le_mm, ni_cl, ni_in, nI_add, ni_mul, ni_div, ni_rem, ni_rem2, fr_sub, fr_mm, fr_ge0, fr_lt0, fr_inj, l32_0, l32_1, l32_2, l32_3, l32_4, l32_5, l32_6, l32_7, l32_8, l32_9, l32_10, l32_11, l32_12, l32_13, l32_14, l32_15, l32_16, l32_20, l32_24, l32_25, l32_26, l32_31, l32_32, l32_34, l32_35, l32_39, l32_40, l32_44, l32_45, l32_46, l32_47, l32_48, l32_49, l32_57, l32_58, l32_59, l32_63, l32_64, l32_85, l32_90, l32_97, l32_99, l32_100, l32_110, l32_112, l32_122, l32_124, l32_125, l32_255, l32_680, l32_699, l32_700, l32_999, l32_2500, l32_99999, l32_100000, l32_1000000, if_true, if_false, ite_true, ite_false, ce_nm, Option.bind, if_pos, if_neg, n3]; exact hin) (Ev.some ⟨f3, fun r hr hR => done r (by omega) hR⟩)
  · have hi2 : i < m 2 := by omega
    have hRi := hR i (by omega)
    have cR : h3 (k + 2) i = fr (R i) := by rw [f3 _ (by omega)]; exact (cp i (by omega)).1
    refine Ev.neg (by simp (disch := omega) only [up_s, up_k, up_j, mm_neg, mm_def, ni_lt, ni_le, ni_eq, ni_mm, mm_ni, ni_lt_mm, ni_le_mm, mm_lt_ni, mm_le_ni, mm_lt_mm, mm_le_mm, ni_cl, ni_in, nI_add, ni_mul, ni_div, ni_rem, ni_rem2, fr_sub, fr_mm, fr_ge0, fr_lt0, fr_inj, l32_0, l32_1, l32_2, l32_3, l32_4, l32_5, l32_6, l32_7, l32_8, l32_9, l32_10, l32_11, l32_12, l32_13, l32_14, l32_15, l32_16, l32_20, l32_24, l32_25, l32_26, l32_31, l32_32, l32_34, l32_35, l32_39, l32_40, l32_44, l32_45, l32_46, l32_47, l32_48, l32_49, l32_57, l32_58, l32_59, l32_63, l32_64, l32_85, l32_90, l32_97, l32_99, l32_100, l32_110, l32_112, l32_122, l32_124, l32_125, l32_255, l32_680, l32_699, l32_700, l32_999, l32_2500, l32_99999, l32_100000, l32_1000000, if_true, if_false, ite_true, ite_false, ce_nm, Option.bind, if_pos, if_neg, n3]; exact hin) (Ev.grd (ni_in (by omega) (by omega)) ?_)
    rw [ni_cl (by omega)]
    by_cases z : R i = 0
    · refine Ev.pos (by rw [cR, z]; rfl) (Ev.some ⟨hi2, nxt, f3, ⟨id, id1, id2, fun w hw hn => id3 w hw (fun r hr => hn r (by omega))⟩, fun L hL hn => e64 L hL (fun r hr => hn r (by omega)), fun r hr hRr => ?_⟩)
      have : r ≠ i := fun q => by rw [q] at hRr; exact hRr z
      exact done r (by omega) hRr
    · obtain ⟨hp, T⟩ := rt.1 i hi2 z
      refine Ev.neg (by simp (disch := omega) only [up_s, up_k, up_j, mm_neg, mm_def, ni_lt, ni_le, ni_eq, ni_mm, mm_ni, ni_lt_mm, ni_le_mm, mm_lt_ni, mm_le_ni, mm_lt_mm, mm_le_mm, ni_cl, ni_in, nI_add, ni_mul, ni_div, ni_rem, ni_rem2, fr_sub, fr_mm, fr_ge0, fr_lt0, fr_inj, l32_0, l32_1, l32_2, l32_3, l32_4, l32_5, l32_6, l32_7, l32_8, l32_9, l32_10, l32_11, l32_12, l32_13, l32_14, l32_15, l32_16, l32_20, l32_24, l32_25, l32_26, l32_31, l32_32, l32_34, l32_35, l32_39, l32_40, l32_44, l32_45, l32_46, l32_47, l32_48, l32_49, l32_57, l32_58, l32_59, l32_63, l32_64, l32_85, l32_90, l32_97, l32_99, l32_100, l32_110, l32_112, l32_122, l32_124, l32_125, l32_255, l32_680, l32_699, l32_700, l32_999, l32_2500, l32_99999, l32_100000, l32_1000000, if_true, if_false, ite_true, ite_false, ce_nm, Option.bind, if_pos, if_neg, cR]; exact z) ?_
      rw [x_leastOf ok c3 hi2]
      refine ev_bs ?_
      dsimp only
      obtain ⟨L, hL⟩ : ∃ L, L = lst (og m) i := ⟨_, rfl⟩
      have hL10 : L < 10 := by
        have := (lst_cn (o := og m) (v := i) (by omega)).2
        omega
      have e10 : nI (lst (og m) i) * (10 : Int32) = nI (10 * L) := by rw [l32_10, ni_mul, ← hL, Nat.mul_comm]
      rw [e10]
      have lone : ∀ r, r < i → R r ≠ 0 → ¬ Cn (og m) r i := fun r hr hRr hc => by
        have := rt.2.1 r i (by omega) hi2 hRr z hc
        omega
      have lone2 : ∀ r, r < i → R r ≠ 0 → lst (og m) r ≠ L := fun r hr hRr q => lone r hr hRr ((lst_iff g (by omega) (by omega)).mp (by rw [q, hL]))
      have idz : ∀ w, Cn (og m) i w → id w = 0 := fun w hw => id3 w (T.lt hw) (fun r hr hRr hc => lone r hr hRr (hc.trans (hw.symm g)))
      refine Ev.bind (x_nameFrom hkn hk ok T hi2 hL10 c3.2.2.1 (fun v hv => by rw [f3 _ (by omega)]; exact (cp v hv).2) id1 id2 idz (e64 L hL10 lone2) hF) (fun h4 hh => ?_)
      obtain ⟨⟨q1, q2, q3, q4, q5⟩, q6⟩ := hh
      have h1' := T.2.2.2.2.1
      have sp := (pn_spec T 12 i (0, id) (Cn.refl _ _) (by omega)).1
      have ind := pn_ind (og m) P 12 i (0, id) (0, fun _ => 0) rfl
      have n1 : (pn (og m) P 12 i (0, id)).1 = sz (og m) i := by
        rw [← ids_sz T]
        exact ind.1
      have eid : ∀ w, Cn (og m) i w → (pn (og m) P 12 i (0, id)).2 w = ids (og m) P i w := fun w hw => by
        rcases ind.2 w with a | ⟨a, b⟩
        · exact a
        · have := (sp.2.2.1 w ⟨hw, T.all hw⟩).1
          rw [a] at this
          have := idz w hw
          dsimp only at *
          omega
      have out : ∀ w, ¬ Cn (og m) i w → (pn (og m) P 12 i (0, id)).2 w = id w := fun w hw => sp.2.1 w (fun q => hw q.1)
      refine Ev.some ⟨hi2, nxt, fun c hc => ?_, ⟨_, q1, q6, fun w hw hn => ?_⟩, fun L' hL' hn j hj => ?_, fun r hr hRr => ?_⟩
      · show h4 c = h c
        rw [q5 c (by omega) (by omega)]; exact f3 c hc
      · rw [out w (hn i (by omega) z)]
        exact id3 w hw (fun r hr => hn r (by omega))
      · have : lst (og m) i ≠ L' := hn i (by omega) z
        dsimp only
        rw [q4 (10 * L' + j) (by omega)]
        exact e64 L' hL' (fun r hr => hn r (by omega)) j hj
      · by_cases y : r = i
        · subst y
          refine ⟨fun w hw => ?_, fun j hj hj10 => ?_⟩
          · have a := q1 w (T.lt hw)
            have b := (ids_spec T).1 w hw
            have d := q2 w hw (by rw [eid w hw]; omega)
            rw [eid w hw] at a d
            rw [← hL]
            exact ⟨a, d.2⟩
          · rw [← hL]
            exact q3 j (by omega) hj10
        · have old := done r (by omega) hRr
          have nl := lone r (by omega) hRr
          have nl2 := lone2 r (by omega) hRr
          obtain ⟨hpr, Tr'⟩ := rt.1 r (by omega) hRr
          have l10 : lst (og m) r < 10 := by
            have := (lst_cn (o := og m) (v := r) (by omega)).2
            omega
          have s10 : sz (og m) r ≤ 10 := ct_le _ _
          refine ⟨fun w hw => ?_, fun j hj hj10 => ?_⟩
          · have b := (ids_spec Tr').1 w hw
            have b2 := ids_sz Tr'
            have hw10 := Tr'.lt hw
            dsimp only
            rw [q1 w hw10, out w (fun q => nl (hw.trans (q.symm g))), ← id1 w hw10, q4 _ (by omega)]
            exact old.1 w hw
          · dsimp only
            rw [q4 _ (by omega)]
            exact old.2 j hj hj10
