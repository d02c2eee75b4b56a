-- words, numbers, signs: one token is taken, in both
abbrev Tok : Type := Nat × Nat × Nat
abbrev Rs (α : Type) : Type := (Nat × Nat) ⊕ α
def bnd {α β : Type} (r : Rs α) (f : α → Rs β) : Rs β := match r with
  | .inl x => .inl x
  | .inr a => f a
noncomputable def tn (t : Nat → Nat) (T p : Nat) : Tok := Classical.epsilon (fun x : Tok => TK t T p x.1 x.2.1 x.2.2)
theorem tn_eq {t : Nat → Nat} {T p s e k : Nat} (h : TK t T p s e k) : tn t T p = (s, e, k) := by
  have q := Classical.epsilon_spec (p := fun x : Tok => TK t T p x.1 x.2.1 x.2.2) ⟨(s, e, k), h⟩
  obtain ⟨a, b, c⟩ := TK.uniq (show TK t T p (tn t T p).1 (tn t T p).2.1 (tn t T p).2.2 from q) h
  rw [← a, ← b, ← c]
def wl (w : Nat) : Nat := ce_lens.getD w 0
theorem wl_le : ∀ w : Fin 9, wl w.val ≤ 5 := by decide
def isW (t : Nat → Nat) (w : Nat) (x : Tok) : Prop := x.2.2 = 1 ∧ x.2.1 - x.1 = wl w ∧ ∀ i, i < wl w → nI (t (x.1 + i)) = ce_chr w (nI i)
/-- a token within the tape -/
def okT (t : Nat → Nat) (T : Nat) (x : Tok) : Prop := x.1 ≤ x.2.1 ∧ x.2.1 ≤ T ∧ x.2.2 ≤ 4 ∧ (x.2.2 = 2 → ∀ j, x.1 ≤ j → j < x.2.1 → 48 ≤ t j ∧ t j ≤ 57)
theorem TK.okT {t : Nat → Nat} {T p s e k : Nat} (h : TK t T p s e k) (hp : p ≤ T) : okT t T (s, e, k) := by
  obtain ⟨a1, a2, a3, a4, a5⟩ := h.le hp
  refine ⟨a2, a3, a4, fun hk j j1 j2 => ?_⟩
  have hk : k = 2 := hk
  rcases h.2 with ⟨x1, x2, x3⟩ | ⟨x1, x2, x3, x4⟩
  · omega
  · have r := x3 (Or.inr hk)
    have := (r.2.1 j j1 j2).2
    rw [hk] at this
    exact kd_2.mp this
def CP (h : Hp) (T : Nat) (t : Nat → Nat) (x : Tok) : Prop := TC h T t ∧ LC h x.1 x.2.1 x.2.2 ∧ h 1 4 = nI 0 ∧ okT t T x
def RP (h : Hp) (T : Nat) (t : Nat → Nat) (x : Tok) : Prop := TM h T t ∧ LR h t x.1 x.2.1 x.2.2 ∧ h 68 11 = nI 0 ∧ okT t T x
theorem x_cisWord {T w F : Nat} {t : Nat → Nat} {h : Hp} {x : Tok} (c : CP h T t x) (hw : w < 9) (hF : 1000 ≤ F) : f6_isWord F w h = some (if bo (isW t w x) = true then nI 1 else nI 0, h) := by
  obtain ⟨s, e, k⟩ := x
  obtain ⟨tc, ⟨l1, l2, l3⟩, fine, ⟨o1, o2, o3, o4⟩⟩ := c
  dsimp only at l1 l2 l3 o1 o2 o3 o4
  have hT := tc.1
  have wle := wl_le ⟨w, hw⟩
  dsimp only at wle
  have sl : ce_slen w = nI (wl w) := rfl
  refine Ev.eq ?_
  unfold f6_isWord
  by_cases k1 : k = 1
  · refine Ev.pos (by rw [l3, k1]; rfl) ?_
    by_cases le : e - s = wl w
    · refine Ev.pos (by rw [l1, l2, ni_sub o1, le, sl]) ?_
      have L := find_it (B := fun st => f6_isWord_b28 F w st.1 st.2) (fun i => !(decide (nI (t (s + i)) = ce_chr w (nI i)))) (fun _ => ((0 : Int32), h)) (wl w) h (F := F) (by omega) (fun i hi hb => by
        show f6_isWord_b28 F w (nI i) h = _
        have nxt : nI i + 1 = nI (i + 1) := nI_1 _
        refine Ev.eq' ?_
        unfold f6_isWord_b28
        rw [sl]
        by_cases z : i = wl w
        · refine Ev.pos (by rw [z, ni_le (by omega) (by omega)]; exact Nat.le_refl _) (Ev.some ?_)
          rw [if_pos z]
        · refine Ev.neg (by rw [ni_le (by omega) (by omega)]; omega) ?_
          rw [l1, nI_add, x_byteAt tc _ (by omega), if_pos (by omega), if_neg z]
          refine ev_bs (Ev.grd (ni_in (by show wl w < _; omega) (by show i < wl w; omega)) ?_)
          dsimp only
          by_cases y : nI (t (s + i)) = ce_chr w (nI i)
          · refine Ev.pos y (Ev.some ?_)
            rw [if_neg (by simp [y]), nxt]
          · refine Ev.neg y (Ev.some ?_)
            rw [if_pos (by simp [y])])
      rw [show ((0 : Int32), h) = (nI 0, h) from rfl, L]
      rcases fi_spec (fun i => !(decide (nI (t (s + i)) = ce_chr w (nI i)))) (wl w) with ⟨a, b⟩ | ⟨a, b, d, f⟩
      · rw [if_pos a]
        refine Ev.some ?_
        rw [bo_p (show isW t w (s, e, k) from ⟨k1, le, fun i hi => by simpa using b i hi⟩)]
        rfl
      · rw [if_neg a]
        refine Ev.some ?_
        rw [bo_f (show ¬ isW t w (s, e, k) from fun q => by
          have := q.2.2 (fi (fun i => !(decide (nI (t (s + i)) = ce_chr w (nI i)))) (wl w) - 1) (by omega)
          dsimp only at this
          simp [this] at d)]
        rfl
    · refine Ev.neg (by rw [l1, l2, ni_sub o1, sl, ni_eq (by omega) (by omega)]; exact le) (Ev.some ?_)
      rw [bo_f (show ¬ isW t w (s, e, k) from fun q => le q.2.1)]
      rfl
  · refine Ev.neg (by rw [l3]; simp (disch := omega) only [up_s, up_k, up_j, mm_neg, mm_def, ni_lt, ni_le, ni_eq, ni_mm, mm_ni, ni_lt_mm, ni_le_mm, mm_lt_ni, mm_le_ni, mm_lt_mm, mm_le_mm, ni_cl, ni_in, nI_add, ni_mul, ni_div, ni_rem, ni_rem2, fr_sub, fr_mm, fr_ge0, fr_lt0, fr_inj, l32_0, l32_1, l32_2, l32_3, l32_4, l32_5, l32_6, l32_7, l32_8, l32_9, l32_10, l32_11, l32_12, l32_13, l32_14, l32_15, l32_16, l32_20, l32_24, l32_25, l32_26, l32_31, l32_32, l32_34, l32_35, l32_39, l32_40, l32_44, l32_45, l32_46, l32_47, l32_48, l32_49, l32_57, l32_58, l32_59, l32_63, l32_64, l32_85, l32_90, l32_97, l32_99, l32_100, l32_110, l32_112, l32_122, l32_124, l32_125, l32_255, l32_680, l32_699, l32_700, l32_999, l32_2500, l32_99999, l32_100000, l32_1000000, if_true, if_false, ite_true, ite_false, ce_nm, Option.bind, if_pos, if_neg]; exact k1) (Ev.some ?_)
    rw [bo_f (show ¬ isW t w (s, e, k) from fun q => k1 q.1)]
    rfl
theorem x_misWord {T w F : Nat} {t : Nat → Nat} {h : Hp} {x : Tok} (c : RP h T t x) (hw : w < 9) (hF : 1000 ≤ F) : f12_isWord F w h = some (if bo (isW t w x) = true then nI 1 else nI 0, h) := by
  obtain ⟨s, e, k⟩ := x
  obtain ⟨tc, ⟨l1, l2, l3, l4⟩, fine, ⟨o1, o2, o3, o4⟩⟩ := c
  dsimp only at l1 l2 l3 l4 o1 o2 o3 o4
  have hT := tc.1
  have wle := wl_le ⟨w, hw⟩
  dsimp only at wle
  have sl : ce_slen w = nI (wl w) := rfl
  have zero : ce_it (fun (st : Int32 × Int32 × Hp) => f12_isWord_b32 F w st.1 st.2.1 st.2.2) F ((0 : Int32), (0 : Int32), h) = some (0, h) := by
    obtain ⟨G, hG⟩ : ∃ G, F = G + 1 := ⟨F - 1, by omega⟩
    rw [hG]
    refine it_end (Ev.eq ?_) G
    show Ev (f12_isWord_b32 (G + 1) w 0 0 h) _
    unfold f12_isWord_b32
    rw [sl]
    by_cases q : wl w ≤ 0
    · exact Ev.pos (by simp (disch := omega) only [up_s, up_k, up_j, mm_neg, mm_def, ni_lt, ni_le, ni_eq, ni_mm, mm_ni, ni_lt_mm, ni_le_mm, mm_lt_ni, mm_le_ni, mm_lt_mm, mm_le_mm, ni_cl, ni_in, nI_add, ni_mul, ni_div, ni_rem, ni_rem2, fr_sub, fr_mm, fr_ge0, fr_lt0, fr_inj, l32_0, l32_1, l32_2, l32_3, l32_4, l32_5, l32_6, l32_7, l32_8, l32_9, l32_10, l32_11, l32_12, l32_13, l32_14, l32_15, l32_16, l32_20, l32_24, l32_25, l32_26, l32_31, l32_32, l32_34, l32_35, l32_39, l32_40, l32_44, l32_45, l32_46, l32_47, l32_48, l32_49, l32_57, l32_58, l32_59, l32_63, l32_64, l32_85, l32_90, l32_97, l32_99, l32_100, l32_110, l32_112, l32_122, l32_124, l32_125, l32_255, l32_680, l32_699, l32_700, l32_999, l32_2500, l32_99999, l32_100000, l32_1000000, if_true, if_false, ite_true, ite_false, ce_nm, Option.bind, if_pos, if_neg]; exact q) (Ev.some rfl)
    · exact Ev.neg (by simp (disch := omega) only [up_s, up_k, up_j, mm_neg, mm_def, ni_lt, ni_le, ni_eq, ni_mm, mm_ni, ni_lt_mm, ni_le_mm, mm_lt_ni, mm_le_ni, mm_lt_mm, mm_le_mm, ni_cl, ni_in, nI_add, ni_mul, ni_div, ni_rem, ni_rem2, fr_sub, fr_mm, fr_ge0, fr_lt0, fr_inj, l32_0, l32_1, l32_2, l32_3, l32_4, l32_5, l32_6, l32_7, l32_8, l32_9, l32_10, l32_11, l32_12, l32_13, l32_14, l32_15, l32_16, l32_20, l32_24, l32_25, l32_26, l32_31, l32_32, l32_34, l32_35, l32_39, l32_40, l32_44, l32_45, l32_46, l32_47, l32_48, l32_49, l32_57, l32_58, l32_59, l32_63, l32_64, l32_85, l32_90, l32_97, l32_99, l32_100, l32_110, l32_112, l32_122, l32_124, l32_125, l32_255, l32_680, l32_699, l32_700, l32_999, l32_2500, l32_99999, l32_100000, l32_1000000, if_true, if_false, ite_true, ite_false, ce_nm, Option.bind, if_pos, if_neg]; exact q) (Ev.pos rfl (Ev.some rfl))
  refine Ev.eq ?_
  unfold f12_isWord
  by_cases k1 : k = 1
  · refine Ev.pos (by rw [l3, k1]; rfl) ?_
    by_cases le : e - s = wl w
    · refine Ev.pos (by rw [l1, l2, ni_sub o1, le, sl]) ?_
      refine Ev.bind (P := fun o => o = (if bo (isW t w (s, e, k)) = true then nI 1 else nI 0, h)) ?_ (fun o ho => ?_)
      · refine Ev.it (I := fun i st => (st = (nI 1, nI i, h) ∧ ∀ j, j < i → nI (t (s + j)) = ce_chr w (nI j)) ∨ (st = (nI 0, nI i, h) ∧ ¬ isW t w (s, e, k))) _ (wl w) ?_ F 0 _ (by omega) (by omega) (Or.inl ⟨rfl, fun j hj => absurd hj (by omega)⟩)
        rintro i st hi hI
        have nxt : nI i + 1 = nI (i + 1) := nI_1 _
        rcases hI with ⟨rfl, hb⟩ | ⟨rfl, hb⟩
        · show Ev (f12_isWord_b32 F w (nI 1) (nI i) h) _
          unfold f12_isWord_b32
          rw [sl]
          by_cases z : i = wl w
          · refine Ev.pos (by rw [z, ni_le (by omega) (by omega)]; exact Nat.le_refl _) (Ev.some ?_)
            rw [bo_p (show isW t w (s, e, k) from ⟨k1, le, fun j hj => hb j (by omega)⟩)]
            rfl
          · refine Ev.neg (by rw [ni_le (by omega) (by omega)]; omega) (Ev.neg (by decide) ?_)
            rw [l1, nI_add, ni_cl (by omega : s + i < 2147483648), (tc.2.2 (s + i) (by omega)).2]
            refine Ev.grd (ni_in (by omega) (by omega)) (Ev.grd (ni_in (by show wl w < _; omega) (by show i < wl w; omega)) ?_)
            by_cases y : nI (t (s + i)) = ce_chr w (nI i)
            · refine Ev.pos y (Ev.some ⟨by omega, Or.inl ⟨by rw [nxt]; rfl, fun j hj => ?_⟩⟩)
              by_cases jj : j = i
              · rw [jj]; exact y
              · exact hb j (by omega)
            · exact Ev.neg y (Ev.some ⟨by omega, Or.inr ⟨by rw [nxt]; rfl, fun q => y (q.2.2 i (by omega))⟩⟩)
        · show Ev (f12_isWord_b32 F w (nI 0) (nI i) h) _
          unfold f12_isWord_b32
          rw [sl]
          by_cases z : i = wl w
          · refine Ev.pos (by rw [z, ni_le (by omega) (by omega)]; exact Nat.le_refl _) (Ev.some ?_)
            rw [bo_f hb]
            rfl
          · refine Ev.neg (by rw [ni_le (by omega) (by omega)]; omega) (Ev.pos rfl (Ev.some ?_))
            rw [bo_f hb]
            rfl
      · rw [ho]
        by_cases q : bo (isW t w (s, e, k)) = true
        · rw [if_pos q]; exact Ev.grd (Or.inr rfl) (Ev.some rfl)
        · rw [if_neg q]; exact Ev.grd (Or.inl rfl) (Ev.some rfl)
    · refine Ev.neg (by rw [l1, l2, ni_sub o1, sl, ni_eq (by omega) (by omega)]; exact le) ?_
      rw [zero, bo_f (show ¬ isW t w (s, e, k) from fun q => le q.2.1)]
      exact ev_bs (Ev.grd (Or.inl rfl) (Ev.some rfl))
  · refine Ev.neg (by rw [l3]; simp (disch := omega) only [up_s, up_k, up_j, mm_neg, mm_def, ni_lt, ni_le, ni_eq, ni_mm, mm_ni, ni_lt_mm, ni_le_mm, mm_lt_ni, mm_le_ni, mm_lt_mm, mm_le_mm, ni_cl, ni_in, nI_add, ni_mul, ni_div, ni_rem, ni_rem2, fr_sub, fr_mm, fr_ge0, fr_lt0, fr_inj, l32_0, l32_1, l32_2, l32_3, l32_4, l32_5, l32_6, l32_7, l32_8, l32_9, l32_10, l32_11, l32_12, l32_13, l32_14, l32_15, l32_16, l32_20, l32_24, l32_25, l32_26, l32_31, l32_32, l32_34, l32_35, l32_39, l32_40, l32_44, l32_45, l32_46, l32_47, l32_48, l32_49, l32_57, l32_58, l32_59, l32_63, l32_64, l32_85, l32_90, l32_97, l32_99, l32_100, l32_110, l32_112, l32_122, l32_124, l32_125, l32_255, l32_680, l32_699, l32_700, l32_999, l32_2500, l32_99999, l32_100000, l32_1000000, if_true, if_false, ite_true, ite_false, ce_nm, Option.bind, if_pos, if_neg]; exact k1) ?_
    rw [zero, bo_f (show ¬ isW t w (s, e, k) from fun q => k1 q.1)]
    exact ev_bs (Ev.grd (Or.inl rfl) (Ev.some rfl))
