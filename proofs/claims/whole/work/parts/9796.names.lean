-- names of nodes, looked up in both
/-- the names so far: where each begins, how long -/
def okA (T n : Nat) (na : Nat → Nat × Nat) : Prop := n ≤ 10 ∧ ∀ v, v < n → (na v).1 + (na v).2 ≤ T ∧ (na v).2 ≤ 6
def CA (h : Hp) (n : Nat) (na : Nat → Nat × Nat) : Prop := ∀ v, v < n → h 5 v = nI (na v).1 ∧ h 6 v = nI (na v).2
def MA (h : Hp) (n : Nat) (na : Nat → Nat × Nat) : Prop := ∀ v, v < n → h 73 v = nI (na v).1 ∧ h 74 v = nI (na v).2
noncomputable def nq (t : Nat → Nat) (x : Tok) (na : Nat → Nat × Nat) (v : Nat) : Bool := bo (x.2.1 - x.1 = (na v).2 ∧ ∀ i, i < (na v).2 → t ((na v).1 + i) = t (x.1 + i))
theorem x_cnameHere {T v F n : Nat} {t : Nat → Nat} {h : Hp} {x : Tok} {na : Nat → Nat × Nat} (c : CP h T t x) (oa : okA T n na) (ca : CA h n na) (hv : v < n) (hF : 1000 ≤ F) : f8_isNameHere F (nI v) h = some (if nq t x na v = true then nI 1 else nI 0, h) := by
  obtain ⟨s, e, k⟩ := x
  obtain ⟨tc, ⟨l1, l2, l3⟩, fine, ⟨o1, o2, o3, o4⟩⟩ := c
  dsimp only at l1 l2 l3 o1 o2 o3 o4
  have hT := tc.1
  have hn := oa.1
  obtain ⟨b1, b2⟩ := oa.2 v hv
  obtain ⟨a5, a6⟩ := ca v hv
  refine Ev.eq ?_
  unfold f8_isNameHere
  refine Ev.grd (ni_in (by omega) (by omega)) ?_
  rw [ni_cl (by omega)]
  by_cases le : e - s = (na v).2
  · refine Ev.pos (by rw [l1, l2, ni_sub o1, le, a6]) ?_
    have L := find_it (B := fun st => f8_isNameHere_b22 F (nI v) st.1 st.2) (fun i => !(decide (t ((na v).1 + i) = t (s + i)))) (fun _ => ((0 : Int32), h)) (na v).2 h (F := F) (by omega) (fun i hi hb => by
      show f8_isNameHere_b22 F (nI v) (nI i) h = _
      have nxt : nI i + 1 = nI (i + 1) := nI_1 _
      refine Ev.eq' ?_
      unfold f8_isNameHere_b22
      refine Ev.grd (ni_in (by omega) (by omega)) ?_
      rw [ni_cl (by omega)]
      by_cases z : i = (na v).2
      · refine Ev.pos (by rw [a6, z, ni_le (by omega) (by omega)]; exact Nat.le_refl _) (Ev.some ?_)
        rw [if_pos z]
      · have t1 := (tc.2.2 (s + i) (by omega)).1
        have t2 := (tc.2.2 ((na v).1 + i) (by omega)).1
        refine Ev.neg (by rw [a6, ni_le (by omega) (by omega)]; omega) ?_
        rw [l1, nI_add, x_byteAt tc _ (by omega), if_pos (by omega), if_neg z]
        refine ev_bs (Ev.grd (ni_in (by omega) (by omega)) ?_)
        dsimp only
        rw [a5, nI_add, x_byteAt tc _ (by omega), if_pos (by omega)]
        refine ev_bs ?_
        dsimp only
        by_cases y : t ((na v).1 + i) = t (s + i)
        · refine Ev.pos (by rw [y]) (Ev.some ?_)
          rw [if_neg (by simp [y]), nxt]
        · refine Ev.neg (by rw [ni_eq (by omega) (by omega)]; exact fun q => y q.symm) (Ev.some ?_)
          rw [if_pos (by simp [y])])
    rw [show ((0 : Int32), h) = (nI 0, h) from rfl, L]
    rcases fi_spec (fun i => !(decide (t ((na v).1 + i) = t (s + i)))) (na v).2 with ⟨a, b⟩ | ⟨a, b, d, f⟩
    · rw [if_pos a]
      refine Ev.some ?_
      rw [show nq t (s, e, k) na v = true from bo_p ⟨le, fun i hi => by simpa using b i hi⟩]
      rfl
    · rw [if_neg a]
      refine Ev.some ?_
      rw [show nq t (s, e, k) na v = false from bo_f (fun q => by
        have := q.2 (fi (fun i => !(decide (t ((na v).1 + i) = t (s + i)))) (na v).2 - 1) (by omega)
        dsimp only at this
        simp [this] at d)]
      rfl
  · refine Ev.neg (by rw [l1, l2, ni_sub o1, a6, ni_eq (by omega) (by omega)]; exact le) (Ev.some ?_)
    rw [show nq t (s, e, k) na v = false from bo_f (fun q => le q.1)]
    rfl
theorem x_cnode {T kn F n : Nat} {t : Nat → Nat} {h : Hp} {x : Tok} {na : Nat → Nat × Nat} (c : CP h T t x) (oa : okA T n na) (ca : CA h n na) (h3 : h kn 3 = nI n) (hF : 1000 ≤ F) : f8_nodeNamedHere F kn h = some (fr (fi (nq t x na) n), h) := by
  have hn := oa.1
  unfold f8_nodeNamedHere
  have L := find_it (B := fun st => f8_nodeNamedHere_b2 F kn st.1 st.2) (nq t x na) (fun v => (nI v, h)) n h (F := F) (by omega) (fun i hi hb => by
    show f8_nodeNamedHere_b2 F kn (nI i) h = _
    have nxt : nI i + 1 = nI (i + 1) := nI_1 _
    refine Ev.eq' ?_
    unfold f8_nodeNamedHere_b2
    by_cases z : i = n
    · refine Ev.pos (by rw [h3, z, ni_le (by omega) (by omega)]; exact Nat.le_refl _) (Ev.some ?_)
      rw [if_pos z]
    · refine Ev.neg (by rw [h3, ni_le (by omega) (by omega)]; omega) ?_
      rw [x_cnameHere c oa ca (by omega) hF, if_neg z]
      refine ev_bs ?_
      dsimp only
      by_cases y : nq t x na i = true
      · refine Ev.neg (by rw [if_pos y]; decide) (Ev.some ?_)
        rw [if_pos y]
      · refine Ev.pos (by rw [if_neg y]; rfl) (Ev.some ?_)
        rw [if_neg y, nxt])
  rw [show ((0 : Int32), h) = (nI 0, h) from rfl, L]
  generalize fi (nq t x na) n = q
  by_cases z : q = 0
  · rw [if_pos z, z]
    rfl
  · rw [if_neg z, fr_p (by omega)]
    rfl
theorem x_mnode {T F n : Nat} {t : Nat → Nat} {h : Hp} {x : Tok} {na : Nat → Nat × Nat} (c : RP h T t x) (oa : okA T n na) (ca : MA h n na) (h2 : h 69 2 = nI n) (hF : 1000 ≤ F) : f12_nodeHere F h = some (fr (fi (nq t x na) n), h) := by
  have hn := oa.1
  obtain ⟨s, e, k⟩ := x
  obtain ⟨tc, ⟨l1, l2, l3, l4⟩, fine, ⟨o1, o2, o3, o4⟩⟩ := c
  dsimp only at l1 l2 l3 l4 o1 o2 o3 o4
  have hT := tc.1
  unfold f12_nodeHere
  have L := find_it (B := fun st => f12_nodeHere_b2 F st.1 st.2) (nq t (s, e, k) na) (fun v => (nI v, h)) n h (F := F) (by omega) (fun v hi hb => by
    show f12_nodeHere_b2 F (nI v) h = _
    have nxt : nI v + 1 = nI (v + 1) := nI_1 _
    have h2' : h 69 ((2 : Int32)).toNatClampNeg = nI n := h2
    refine Ev.eq' ?_
    unfold f12_nodeHere_b2
    by_cases z : v = n
    · refine Ev.pos (by rw [h2', z, ni_le (by omega) (by omega)]; exact Nat.le_refl _) (Ev.some ?_)
      rw [if_pos z]
    · obtain ⟨b1, b2⟩ := oa.2 v (by omega)
      obtain ⟨a5, a6⟩ := ca v (by omega)
      refine Ev.neg (by rw [h2', ni_le (by omega) (by omega)]; omega) (Ev.grd (ni_in (by omega) (by omega)) ?_)
      rw [ni_cl (by omega), if_neg z]
      by_cases le : e - s = (na v).2
      · refine Ev.pos (by rw [a6, l1, l2, ni_sub o1, le]) ?_
        refine Ev.bind (P := fun o => o = (if nq t (s, e, k) na v = true then nI 1 else nI 0, h)) ?_ (fun o ho => ?_)
        · refine Ev.it (I := fun i st => (st = (nI 1, nI i, h) ∧ ∀ j, j < i → t ((na v).1 + j) = t (s + j)) ∨ (st = (nI 0, nI i, h) ∧ nq t (s, e, k) na v = false)) _ (na v).2 ?_ F 0 _ (by omega) (by omega) (Or.inl ⟨rfl, fun j hj => absurd hj (by omega)⟩)
          rintro i st hi2 hI
          have nxi : nI i + 1 = nI (i + 1) := nI_1 _
          rcases hI with ⟨rfl, hj⟩ | ⟨rfl, hj⟩
          · show Ev (f12_nodeHere_b38 F (nI v) (nI 1) (nI i) h) _
            unfold f12_nodeHere_b38
            refine Ev.grd (ni_in (by omega) (by omega)) ?_
            rw [ni_cl (by omega)]
            by_cases y : i = (na v).2
            · refine Ev.pos (by rw [a6, y, ni_le (by omega) (by omega)]; exact Nat.le_refl _) (Ev.some ?_)
              rw [show nq t (s, e, k) na v = true from bo_p ⟨le, fun j hj' => hj j (by omega)⟩]
              rfl
            · have t1 := tc.2.2 (s + i) (by omega)
              have t2 := tc.2.2 ((na v).1 + i) (by omega)
              refine Ev.neg (by rw [a6, ni_le (by omega) (by omega)]; omega) (Ev.neg (by decide) (Ev.grd (ni_in (by omega) (by omega)) ?_))
              rw [a5, l1, nI_add, nI_add, ni_cl (by omega), ni_cl (by omega)]
              refine Ev.grd (ni_in (by omega) (by omega)) (Ev.grd (ni_in (by omega) (by omega)) ?_)
              by_cases w : t ((na v).1 + i) = t (s + i)
              · refine Ev.pos (by rw [t1.2, t2.2, w]) (Ev.some ⟨by omega, Or.inl ⟨by rw [nxi]; rfl, fun j hj' => ?_⟩⟩)
                by_cases jj : j = i
                · rw [jj]; exact w
                · exact hj j (by omega)
              · exact Ev.neg (by rw [t1.2, t2.2, ni_eq (by omega) (by omega)]; exact w) (Ev.some ⟨by omega, Or.inr ⟨by rw [nxi]; rfl, bo_f (fun q => w (q.2 i (by omega)))⟩⟩)
          · show Ev (f12_nodeHere_b38 F (nI v) (nI 0) (nI i) h) _
            unfold f12_nodeHere_b38
            refine Ev.grd (ni_in (by omega) (by omega)) ?_
            rw [ni_cl (by omega)]
            by_cases y : i = (na v).2
            · refine Ev.pos (by rw [a6, y, ni_le (by omega) (by omega)]; exact Nat.le_refl _) (Ev.some ?_)
              rw [hj]
              rfl
            · refine Ev.neg (by rw [a6, ni_le (by omega) (by omega)]; omega) (Ev.pos rfl (Ev.some ?_))
              rw [hj]
              rfl
        · rw [ho]
          dsimp only
          by_cases y : nq t (s, e, k) na v = true
          · refine Ev.neg (by rw [if_pos y]; decide) (Ev.some ?_)
            rw [if_pos y]
          · refine Ev.pos (by rw [if_neg y]; rfl) (Ev.some ?_)
            rw [if_neg y, nxt]
      · have nf : nq t (s, e, k) na v = false := bo_f (fun q => le q.1)
        have zero : ce_it (fun (st : Int32 × Int32 × Hp) => f12_nodeHere_b38 F (nI v) st.1 st.2.1 st.2.2) F ((0 : Int32), (0 : Int32), h) = some (0, h) := by
          obtain ⟨G, hG⟩ : ∃ G, F = G + 1 := ⟨F - 1, by omega⟩
          rw [hG]
          refine it_end (Ev.eq ?_) G
          show Ev (f12_nodeHere_b38 (G + 1) (nI v) 0 0 h) _
          unfold f12_nodeHere_b38
          refine Ev.grd (ni_in (by omega) (by omega)) ?_
          rw [ni_cl (by omega)]
          by_cases q : (na v).2 ≤ 0
          · exact Ev.pos (by rw [a6]; simp (disch := omega) only [up_s, up_k, up_j, mm_neg, mm_def, ni_lt, ni_le, ni_eq, ni_mm, mm_ni, ni_lt_mm, ni_le_mm, mm_lt_ni, mm_le_ni, mm_lt_mm, mm_le_mm, ni_cl, ni_in, nI_add, ni_mul, ni_div, ni_rem, ni_rem2, fr_sub, fr_mm, fr_ge0, fr_lt0, fr_inj, l32_0, l32_1, l32_2, l32_3, l32_4, l32_5, l32_6, l32_7, l32_8, l32_9, l32_10, l32_11, l32_12, l32_13, l32_14, l32_15, l32_16, l32_20, l32_24, l32_25, l32_26, l32_31, l32_32, l32_34, l32_35, l32_39, l32_40, l32_44, l32_45, l32_46, l32_47, l32_48, l32_49, l32_57, l32_58, l32_59, l32_63, l32_64, l32_85, l32_90, l32_97, l32_99, l32_100, l32_110, l32_112, l32_122, l32_124, l32_125, l32_255, l32_680, l32_699, l32_700, l32_999, l32_2500, l32_99999, l32_100000, l32_1000000, if_true, if_false, ite_true, ite_false, ce_nm, Option.bind, if_pos, if_neg]; exact q) (Ev.some rfl)
          · exact Ev.neg (by rw [a6]; simp (disch := omega) only [up_s, up_k, up_j, mm_neg, mm_def, ni_lt, ni_le, ni_eq, ni_mm, mm_ni, ni_lt_mm, ni_le_mm, mm_lt_ni, mm_le_ni, mm_lt_mm, mm_le_mm, ni_cl, ni_in, nI_add, ni_mul, ni_div, ni_rem, ni_rem2, fr_sub, fr_mm, fr_ge0, fr_lt0, fr_inj, l32_0, l32_1, l32_2, l32_3, l32_4, l32_5, l32_6, l32_7, l32_8, l32_9, l32_10, l32_11, l32_12, l32_13, l32_14, l32_15, l32_16, l32_20, l32_24, l32_25, l32_26, l32_31, l32_32, l32_34, l32_35, l32_39, l32_40, l32_44, l32_45, l32_46, l32_47, l32_48, l32_49, l32_57, l32_58, l32_59, l32_63, l32_64, l32_85, l32_90, l32_97, l32_99, l32_100, l32_110, l32_112, l32_122, l32_124, l32_125, l32_255, l32_680, l32_699, l32_700, l32_999, l32_2500, l32_99999, l32_100000, l32_1000000, if_true, if_false, ite_true, ite_false, ce_nm, Option.bind, if_pos, if_neg]; exact q) (Ev.pos rfl (Ev.some rfl))
        refine Ev.neg (by rw [a6, l1, l2, ni_sub o1, ni_eq (by omega) (by omega)]; exact fun q => le q.symm) ?_
        rw [zero]
        refine ev_bs (Ev.pos rfl (Ev.some ?_))
        rw [nf, if_neg (by simp), nxt])
  rw [show ((0 : Int32), h) = (nI 0, h) from rfl, L]
  generalize fi (nq t (s, e, k) na) n = q
  by_cases z : q = 0
  · rw [if_pos z, z]
    rfl
  · rw [if_neg z, fr_p (by omega)]
    rfl
