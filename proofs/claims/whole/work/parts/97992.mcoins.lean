-- the reference reads coins
noncomputable def pR (t : Nat → Nat) (T : Nat) (y : Tok) : Rs Tok := if y.2.2 = 2 then (if okC t y = true then .inr (tn t T y.2.1) else .inl (2, y.1)) else .inl (1, y.1)
theorem pQ_R (t : Nat → Nat) (T : Nat) (x : Tok) : pQ t T x = if bo (isW t 6 x) = true then pR t T (tn t T x.2.1) else .inr x := rfl
/-- the net's cells: only two slots of a node -/
def FrV (v : Nat) (h h' : Hp) : Prop := (∀ q, q ≠ 68 → q ≠ 69 → h' q = h q) ∧ (∀ j, (j < 5 ∨ 11 < j) → h' 68 j = h 68 j) ∧ ∀ j, j ≠ 25 + v → j ≠ 35 + v → h' 69 j = h 69 j
theorem FrV.refl (v : Nat) (h : Hp) : FrV v h h := ⟨fun _ _ _ => rfl, fun _ _ => rfl, fun _ _ _ => rfl⟩
theorem FrV.trans {v : Nat} {h1 h2 h3 : Hp} (a : FrV v h1 h2) (b : FrV v h2 h3) : FrV v h1 h3 := ⟨fun q n1 n2 => (b.1 q n1 n2).trans (a.1 q n1 n2), fun j hj => (b.2.1 j hj).trans (a.2.1 j hj), fun j n1 n2 => (b.2.2 j n1 n2).trans (a.2.2 j n1 n2)⟩
theorem FrS.fv {v : Nat} {h h' : Hp} (f : FrS h h') : FrV v h h' := ⟨fun q n1 _ => f.1 q n1, f.2, fun j _ _ => by rw [f.1 69 (by omega)]⟩
theorem FrV.up {v j : Nat} {h : Hp} {x : Int32} (hj : j = 25 + v ∨ j = 35 + v) : FrV v h (hp_up h 69 j x) := ⟨fun q _ n2 => up_kk _ _ _ _ _ n2, fun i _ => up_k _ _ _ _ _ _ (by omega), fun i n1 n2 => up_j _ _ _ _ _ (by omega)⟩
theorem z_faults2 {T k F : Nat} {t : Nat → Nat} {h : Hp} {r : Rs Tok} (c : MR h T t r) : Ev (f12_faults F (nI k) h) (fun h' => FrS h h' ∧ MR h' T t (bnd r (fun x => .inl (k, x.1))) ∧ ∀ j, 7 ≤ j → j ≤ 10 → h' 68 j = h 68 j) := by
  obtain ⟨h', e, f, m⟩ := z_faults (F := F) (k := k) c
  refine ⟨h', e, f, m, fun j j1 j2 => ?_⟩
  unfold f12_faults at e
  by_cases z : h 68 11 = 0
  · rw [if_pos z] at e
    have e' : some (hp_up (hp_up (hp_up h 68 11 1) 68 5 (nI k)) 68 6 ((hp_up (hp_up h 68 11 1) 68 5 (nI k)) 68 8)) = some h' := e
    cases e'
    rw [up_j _ _ _ _ _ (by omega), up_j _ _ _ _ _ (by omega), up_j _ _ _ _ _ (by omega)]
  · rw [if_neg z] at e
    cases e
    rfl
theorem z_coins27 {T v F : Nat} {t : Nat → Nat} {h : Hp} {y : Tok} {r : Rs Tok} (c : MR h T t r) (hs : h 68 8 = nI y.1) (he : h 68 7 = nI y.2.1) (hk : h 68 9 = nI y.2.2) (ok : okT t T y) (hr : (r = .inr y ∧ (y.2.2 = 2 → y.2.1 - y.1 ≤ 8)) ∨ (r = .inl (2, y.1) ∧ y.2.2 = 2 ∧ okC t y = false)) (hv : v < 10) (hz : h 69 (35 + v) = nI 0) (hF : 1000 ≤ F) : Ev (f12_readsCoins_j27 F (nI v) h) (fun h' => FrV v h h' ∧ MR h' T t (pR t T y) ∧ ∀ z, pR t T y = .inr z → h' 69 (25 + v) = nI (y.2.1 - y.1) ∧ h' 69 (35 + v) = nI (wC (dg t y) (y.2.1 - y.1))) := by
  obtain ⟨o1, o2, o3, o4⟩ := ok
  have tm := c.tm
  have hT := tm.1
  have e35 : (35 : Int32) + nI v = nI (35 + v) := by rw [l32_35, nI_add]
  have e25 : (25 : Int32) + nI v = nI (25 + v) := by rw [l32_25, nI_add]
  unfold f12_readsCoins_j27
  rw [hs]
  refine Ev.bind (P := fun h1 => FrV v h h1 ∧ h1 68 8 = nI y.1 ∧ h1 68 7 = nI y.2.1 ∧ h1 68 9 = nI y.2.2 ∧ ((MR h1 T t (.inr y) ∧ (y.2.2 = 2 → okC t y = true ∧ h1 69 (35 + v) = nI (wC (dg t y) (y.2.1 - y.1)))) ∨ (MR h1 T t (.inl (2, y.1)) ∧ y.2.2 = 2 ∧ okC t y = false))) ?_ (fun h1 q1 => ?_)
  · refine Ev.it (I := fun i st => i ≤ y.2.1 - y.1 ∧ st.1 = nI (y.1 + i) ∧ FrV v h st.2 ∧ st.2 68 8 = nI y.1 ∧ st.2 68 7 = nI y.2.1 ∧ st.2 68 9 = nI y.2.2 ∧ ((MR st.2 T t (.inr y) ∧ (y.2.2 = 2 → y.2.1 - y.1 ≤ 8 ∧ (∀ j, j < i → t (y.1 + j) ≤ 49) ∧ st.2 69 (35 + v) = nI (wC (dg t y) i))) ∨ (MR st.2 T t (.inl (2, y.1)) ∧ y.2.2 = 2 ∧ okC t y = false))) _ (y.2.1 - y.1) ?_ F 0 _ (by omega) (by omega) ⟨by omega, rfl, FrV.refl _ _, hs, he, hk, ?_⟩
    rotate_left
    · rcases hr with ⟨rfl, a⟩ | ⟨rfl, a⟩
      · exact Or.inl ⟨c, fun q => ⟨a q, fun j hj => absurd hj (by omega), hz⟩⟩
      · exact Or.inr ⟨c, a⟩
    rintro i ⟨x2, h1⟩ hi hI
    obtain ⟨hie, rfl, f1, g8, g7, g9, alt⟩ : i ≤ y.2.1 - y.1 ∧ x2 = nI (y.1 + i) ∧ FrV v h h1 ∧ h1 68 8 = nI y.1 ∧ h1 68 7 = nI y.2.1 ∧ h1 68 9 = nI y.2.2 ∧ ((MR h1 T t (.inr y) ∧ (y.2.2 = 2 → y.2.1 - y.1 ≤ 8 ∧ (∀ j, j < i → t (y.1 + j) ≤ 49) ∧ h1 69 (35 + v) = nI (wC (dg t y) i))) ∨ (MR h1 T t (.inl (2, y.1)) ∧ y.2.2 = 2 ∧ okC t y = false)) := hI
    show Ev (f12_readsCoins_b32 F (nI v) (nI (y.1 + i)) h1) _
    have nxt : nI (y.1 + i) + 1 = nI (y.1 + (i + 1)) := nI_1 _
    unfold f12_readsCoins_b32
    by_cases z : y.2.1 ≤ y.1 + i
    · refine Ev.pos (by rw [g7]; simp (disch := omega) only [up_s, up_k, up_j, mm_neg, mm_def, ni_lt, ni_le, ni_eq, ni_mm, mm_ni, ni_lt_mm, ni_le_mm, mm_lt_ni, mm_le_ni, mm_lt_mm, mm_le_mm, ni_cl, ni_in, nI_add, ni_mul, ni_div, ni_rem, ni_rem2, fr_sub, fr_mm, fr_ge0, fr_lt0, fr_inj, l32_0, l32_1, l32_2, l32_3, l32_4, l32_5, l32_6, l32_7, l32_8, l32_9, l32_10, l32_11, l32_12, l32_13, l32_14, l32_15, l32_16, l32_20, l32_24, l32_25, l32_26, l32_31, l32_32, l32_34, l32_35, l32_39, l32_40, l32_44, l32_45, l32_46, l32_47, l32_48, l32_49, l32_57, l32_58, l32_59, l32_63, l32_64, l32_85, l32_90, l32_97, l32_99, l32_100, l32_110, l32_112, l32_122, l32_124, l32_125, l32_255, l32_680, l32_699, l32_700, l32_999, l32_2500, l32_99999, l32_100000, l32_1000000, if_true, if_false, ite_true, ite_false, ce_nm, Option.bind, if_pos, if_neg]; exact z) (Ev.some ⟨f1, g8, g7, g9, ?_⟩)
      rcases alt with ⟨a, b⟩ | a
      · refine Or.inl ⟨a, fun q => ?_⟩
        obtain ⟨b1, b2, b3⟩ := b q
        have ei : i = y.2.1 - y.1 := by omega
        rw [ei] at b2 b3
        exact ⟨bo_p ⟨b1, b2⟩, b3⟩
      · exact Or.inr a
    · refine Ev.neg (by rw [g7]; simp (disch := omega) only [up_s, up_k, up_j, mm_neg, mm_def, ni_lt, ni_le, ni_eq, ni_mm, mm_ni, ni_lt_mm, ni_le_mm, mm_lt_ni, mm_le_ni, mm_lt_mm, mm_le_mm, ni_cl, ni_in, nI_add, ni_mul, ni_div, ni_rem, ni_rem2, fr_sub, fr_mm, fr_ge0, fr_lt0, fr_inj, l32_0, l32_1, l32_2, l32_3, l32_4, l32_5, l32_6, l32_7, l32_8, l32_9, l32_10, l32_11, l32_12, l32_13, l32_14, l32_15, l32_16, l32_20, l32_24, l32_25, l32_26, l32_31, l32_32, l32_34, l32_35, l32_39, l32_40, l32_44, l32_45, l32_46, l32_47, l32_48, l32_49, l32_57, l32_58, l32_59, l32_63, l32_64, l32_85, l32_90, l32_97, l32_99, l32_100, l32_110, l32_112, l32_122, l32_124, l32_125, l32_255, l32_680, l32_699, l32_700, l32_999, l32_2500, l32_99999, l32_100000, l32_1000000, if_true, if_false, ite_true, ite_false, ce_nm, Option.bind, if_pos, if_neg]; exact z) ?_
      by_cases k2 : y.2.2 = 2
      rotate_left
      · refine Ev.neg (by rw [g9, l32_2, ni_eq (by omega) (by omega)]; exact k2) (Ev.some ⟨f1, g8, g7, g9, ?_⟩)
        rcases alt with ⟨a, b⟩ | a
        · exact Or.inl ⟨a, fun q => absurd q k2⟩
        · exact Or.inr a
      · refine Ev.pos (by rw [g9, k2]; rfl) ?_
        rcases alt with ⟨a, b⟩ | ⟨a, b⟩
        rotate_left
        · exact Ev.neg a.bad (Ev.some ⟨f1, g8, g7, g9, Or.inr ⟨a, b⟩⟩)
        · obtain ⟨b1, b2, b3⟩ := b k2
          have tb := a.tm.2.2 (y.1 + i) (by omega)
          have dl := (o4 k2 (y.1 + i) (by omega) (by omega))
          refine Ev.pos a.good (Ev.grd (ni_in (by omega) (by omega)) ?_)
          rw [ni_cl (by omega), e35, ni_cl (by omega)]
          by_cases w : t (y.1 + i) ≤ 49
          · refine Ev.pos (by rw [tb.2]; simp (disch := omega) only [up_s, up_k, up_j, mm_neg, mm_def, ni_lt, ni_le, ni_eq, ni_mm, mm_ni, ni_lt_mm, ni_le_mm, mm_lt_ni, mm_le_ni, mm_lt_mm, mm_le_mm, ni_cl, ni_in, nI_add, ni_mul, ni_div, ni_rem, ni_rem2, fr_sub, fr_mm, fr_ge0, fr_lt0, fr_inj, l32_0, l32_1, l32_2, l32_3, l32_4, l32_5, l32_6, l32_7, l32_8, l32_9, l32_10, l32_11, l32_12, l32_13, l32_14, l32_15, l32_16, l32_20, l32_24, l32_25, l32_26, l32_31, l32_32, l32_34, l32_35, l32_39, l32_40, l32_44, l32_45, l32_46, l32_47, l32_48, l32_49, l32_57, l32_58, l32_59, l32_63, l32_64, l32_85, l32_90, l32_97, l32_99, l32_100, l32_110, l32_112, l32_122, l32_124, l32_125, l32_255, l32_680, l32_699, l32_700, l32_999, l32_2500, l32_99999, l32_100000, l32_1000000, if_true, if_false, ite_true, ite_false, ce_nm, Option.bind, if_pos, if_neg]; exact w) (Ev.grd (ni_in (by omega) (by omega)) (Ev.grd (ni_in (by omega) (by omega)) (Ev.grd (ni_in (by omega) (by omega)) (Ev.nm (Ev.some ⟨by omega, by omega, nxt, f1.trans (FrV.up (Or.inr rfl)), ?_, ?_, ?_, Or.inl ⟨?_, fun _ => ⟨b1, fun j hj => ?_, ?_⟩⟩⟩)))))
            · dsimp only; rw [up_k _ _ _ _ _ _ (by omega)]; exact g8
            · dsimp only; rw [up_k _ _ _ _ _ _ (by omega)]; exact g7
            · dsimp only; rw [up_k _ _ _ _ _ _ (by omega)]; exact g9
            · dsimp only; exact MR.eqv a (up_kk _ _ _ _ _ (by omega)) (up_kk _ _ _ _ _ (by omega))
            · by_cases jj : j = i
              · rw [jj]; exact w
              · exact b2 j (by omega)
            · dsimp only
              rw [up_s, b3, tb.2, l32_2, ni_mul, nI_add, l32_48, ni_sub (by omega), wC_s]
              congr 1
              unfold dg
              omega
          · have oc : okC t y = false := bo_f (fun q => w (q.2 i (by omega)))
            refine Ev.neg (by rw [tb.2]; simp (disch := omega) only [up_s, up_k, up_j, mm_neg, mm_def, ni_lt, ni_le, ni_eq, ni_mm, mm_ni, ni_lt_mm, ni_le_mm, mm_lt_ni, mm_le_ni, mm_lt_mm, mm_le_mm, ni_cl, ni_in, nI_add, ni_mul, ni_div, ni_rem, ni_rem2, fr_sub, fr_mm, fr_ge0, fr_lt0, fr_inj, l32_0, l32_1, l32_2, l32_3, l32_4, l32_5, l32_6, l32_7, l32_8, l32_9, l32_10, l32_11, l32_12, l32_13, l32_14, l32_15, l32_16, l32_20, l32_24, l32_25, l32_26, l32_31, l32_32, l32_34, l32_35, l32_39, l32_40, l32_44, l32_45, l32_46, l32_47, l32_48, l32_49, l32_57, l32_58, l32_59, l32_63, l32_64, l32_85, l32_90, l32_97, l32_99, l32_100, l32_110, l32_112, l32_122, l32_124, l32_125, l32_255, l32_680, l32_699, l32_700, l32_999, l32_2500, l32_99999, l32_100000, l32_1000000, if_true, if_false, ite_true, ite_false, ce_nm, Option.bind, if_pos, if_neg]; exact w) (Ev.bind (z_faults2 (k := 2) a) (fun h2 q2 => Ev.grd (ni_in (by omega) (by omega)) (Ev.grd (ni_in (by omega) (by omega)) (Ev.grd (ni_in (by omega) (by omega)) (Ev.nm (Ev.some ⟨by omega, by omega, nxt, (f1.trans q2.1.fv).trans (FrV.up (Or.inr rfl)), ?_, ?_, ?_, Or.inr ⟨?_, k2, oc⟩⟩))))))
            · dsimp only; rw [up_k _ _ _ _ _ _ (by omega), q2.2.2 8 (by omega) (by omega)]; exact g8
            · dsimp only; rw [up_k _ _ _ _ _ _ (by omega), q2.2.2 7 (by omega) (by omega)]; exact g7
            · dsimp only; rw [up_k _ _ _ _ _ _ (by omega), q2.2.2 9 (by omega) (by omega)]; exact g9
            · dsimp only; exact MR.eqv q2.2.1 (up_kk _ _ _ _ _ (by omega)) (up_kk _ _ _ _ _ (by omega))
  · obtain ⟨f1, g8, g7, g9, alt⟩ := q1
    rw [e25, ni_cl (by omega)]
    refine Ev.grd (ni_in (by omega) (by omega)) (Ev.nm ?_)
    rw [g7, g8, ni_sub o1]
    obtain ⟨h2, eh2⟩ : ∃ h2, h2 = hp_up h1 69 (25 + v) (nI (y.2.1 - y.1)) := ⟨_, rfl⟩
    rw [← eh2]
    have f2 : FrV v h h2 := by rw [eh2]; exact f1.trans (FrV.up (Or.inl rfl))
    have k68 : h2 68 = h1 68 := by rw [eh2]; exact up_kk _ _ _ _ _ (by omega)
    have k72 : h2 72 = h1 72 := by rw [eh2]; exact up_kk _ _ _ _ _ (by omega)
    have s25 : h2 69 (25 + v) = nI (y.2.1 - y.1) := by rw [eh2, up_s]
    have s35 : h2 69 (35 + v) = h1 69 (35 + v) := by rw [eh2, up_j _ _ _ _ _ (by omega)]
    have g9' : h2 68 9 = nI y.2.2 := by rw [k68]; exact g9
    rcases alt with ⟨a, b⟩ | ⟨a, k2, oc⟩
    · have a2 : MR h2 T t (.inr y) := a.eqv k68 k72
      refine Ev.pos a2.good ?_
      by_cases k2 : y.2.2 = 2
      · obtain ⟨oc, w35⟩ := b k2
        have pe : pR t T y = .inr (tn t T y.2.1) := by unfold pR; rw [if_pos k2, if_pos oc]
        refine Ev.pos (by rw [g9', k2]; rfl) (Ev.bind (z_pass1 a2 hF) (fun h3 q3 => Ev.some ⟨f2.trans q3.1.fv, by rw [pe]; exact q3.2, fun z _ => ?_⟩))
        rw [q3.1.1 69 (by omega), s25, s35]
        exact ⟨rfl, w35⟩
      · have pe : pR t T y = .inl (1, y.1) := by unfold pR; rw [if_neg k2]
        exact Ev.neg (by rw [g9', l32_2, ni_eq (by omega) (by omega)]; exact k2) (Ev.bind (z_pass0 a2 hF) (fun h3 q3 => Ev.some ⟨f2.trans q3.1.fv, by rw [pe]; exact q3.2, fun z w => by rw [pe] at w; cases w⟩))
    · have a2 : MR h2 T t (.inl (2, y.1)) := MR.eqv (r := .inl (2, y.1)) a k68 k72
      have pe : pR t T y = .inl (2, y.1) := by unfold pR; rw [if_pos k2, oc, if_neg (by simp)]
      exact Ev.neg a2.bad (Ev.bind (z_pass1 a2 hF) (fun h3 q3 => Ev.some ⟨f2.trans q3.1.fv, by rw [pe]; exact q3.2, fun z w => by rw [pe] at w; cases w⟩))
theorem z_readsCoins {T v F : Nat} {t : Nat → Nat} {h : Hp} {y : Tok} (c : MR h T t (.inr y)) (hv : v < 10) (hz : h 69 (35 + v) = nI 0) (hF : 1000 ≤ F) : Ev (f12_readsCoins F (nI v) h) (fun h' => FrV v h h' ∧ MR h' T t (pR t T y) ∧ ∀ z, pR t T y = .inr z → h' 69 (25 + v) = nI (y.2.1 - y.1) ∧ h' 69 (35 + v) = nI (wC (dg t y) (y.2.1 - y.1))) := by
  have c0 := c.1
  obtain ⟨tm, ⟨l1, l2, l3, l4⟩, fine, ok⟩ := id c0
  have ok' := ok
  obtain ⟨o1, o2, o3, o4⟩ := ok
  have hT := tm.1
  unfold f12_readsCoins
  by_cases k2 : y.2.2 = 2
  · refine Ev.pos (by rw [l3, k2]; rfl) ?_
    by_cases le : y.2.1 - y.1 ≤ 8
    · exact Ev.pos (by rw [l1, l2, ni_sub o1]; simp (disch := omega) only [up_s, up_k, up_j, mm_neg, mm_def, ni_lt, ni_le, ni_eq, ni_mm, mm_ni, ni_lt_mm, ni_le_mm, mm_lt_ni, mm_le_ni, mm_lt_mm, mm_le_mm, ni_cl, ni_in, nI_add, ni_mul, ni_div, ni_rem, ni_rem2, fr_sub, fr_mm, fr_ge0, fr_lt0, fr_inj, l32_0, l32_1, l32_2, l32_3, l32_4, l32_5, l32_6, l32_7, l32_8, l32_9, l32_10, l32_11, l32_12, l32_13, l32_14, l32_15, l32_16, l32_20, l32_24, l32_25, l32_26, l32_31, l32_32, l32_34, l32_35, l32_39, l32_40, l32_44, l32_45, l32_46, l32_47, l32_48, l32_49, l32_57, l32_58, l32_59, l32_63, l32_64, l32_85, l32_90, l32_97, l32_99, l32_100, l32_110, l32_112, l32_122, l32_124, l32_125, l32_255, l32_680, l32_699, l32_700, l32_999, l32_2500, l32_99999, l32_100000, l32_1000000, if_true, if_false, ite_true, ite_false, ce_nm, Option.bind, if_pos, if_neg]; exact le) (z_coins27 c l1 l2 l3 ok' (Or.inl ⟨rfl, fun _ => le⟩) hv hz hF)
    · have oc : okC t y = false := bo_f (fun q => le q.1)
      refine Ev.neg (by rw [l1, l2, ni_sub o1]; simp (disch := omega) only [up_s, up_k, up_j, mm_neg, mm_def, ni_lt, ni_le, ni_eq, ni_mm, mm_ni, ni_lt_mm, ni_le_mm, mm_lt_ni, mm_le_ni, mm_lt_mm, mm_le_mm, ni_cl, ni_in, nI_add, ni_mul, ni_div, ni_rem, ni_rem2, fr_sub, fr_mm, fr_ge0, fr_lt0, fr_inj, l32_0, l32_1, l32_2, l32_3, l32_4, l32_5, l32_6, l32_7, l32_8, l32_9, l32_10, l32_11, l32_12, l32_13, l32_14, l32_15, l32_16, l32_20, l32_24, l32_25, l32_26, l32_31, l32_32, l32_34, l32_35, l32_39, l32_40, l32_44, l32_45, l32_46, l32_47, l32_48, l32_49, l32_57, l32_58, l32_59, l32_63, l32_64, l32_85, l32_90, l32_97, l32_99, l32_100, l32_110, l32_112, l32_122, l32_124, l32_125, l32_255, l32_680, l32_699, l32_700, l32_999, l32_2500, l32_99999, l32_100000, l32_1000000, if_true, if_false, ite_true, ite_false, ce_nm, Option.bind, if_pos, if_neg]; exact le) (Ev.bind (z_faults2 (k := 2) c) (fun h1 q1 => ?_))
      refine Ev.mono (z_coins27 (y := y) (r := .inl (2, y.1)) q1.2.1 (by rw [q1.2.2 8 (by omega) (by omega)]; exact l1) (by rw [q1.2.2 7 (by omega) (by omega)]; exact l2) (by rw [q1.2.2 9 (by omega) (by omega)]; exact l3) ok' (Or.inr ⟨rfl, k2, oc⟩) hv (by rw [q1.1.1 69 (by omega)]; exact hz) hF) (fun h' q => ⟨q1.1.fv.trans q.1, q.2.1, q.2.2⟩)
  · exact Ev.neg (by rw [l3, l32_2, ni_eq (by omega) (by omega)]; exact k2) (z_coins27 c l1 l2 l3 ok' (Or.inl ⟨rfl, fun q => absurd q k2⟩) hv hz hF)
