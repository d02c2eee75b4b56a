-- the reference's tokens
def vR (t : Nat → Nat) (s : Nat) : Nat → Nat
  | 0 => 0
  | n + 1 => min 99999 (10 * vR t s n + (t (s + n) - 48))
def vC (t : Nat → Nat) (s : Nat) : Nat → Nat
  | 0 => 0
  | n + 1 => if 999 < vC t s n then vC t s n else vC t s n * 10 + (t (s + n) - 48)
theorem vR_s (t : Nat → Nat) (s n : Nat) : vR t s (n + 1) = min 99999 (10 * vR t s n + (t (s + n) - 48)) := rfl
theorem vC_s (t : Nat → Nat) (s n : Nat) : vC t s (n + 1) = if 999 < vC t s n then vC t s n else vC t s n * 10 + (t (s + n) - 48) := rfl
theorem vRC {t : Nat → Nat} {s : Nat} : ∀ n, (∀ i, i < n → t (s + i) ≤ 57) → (vC t s n = vR t s n ∧ vC t s n ≤ 999) ∨ (999 < vC t s n ∧ vC t s n ≤ 9999 ∧ 999 < vR t s n ∧ vR t s n ≤ 99999) := by
  intro n
  induction n with
  | zero => intro _; exact Or.inl ⟨rfl, Nat.zero_le _⟩
  | succ n ih =>
    intro h
    have d := h n (by omega)
    rw [vR_s, vC_s]
    rcases ih (fun i hi => h i (by omega)) with ⟨a, b⟩ | ⟨a, b, c, e⟩
    · rw [if_neg (by omega), ← a]
      by_cases z : vC t s n * 10 + (t (s + n) - 48) ≤ 999
      · exact Or.inl ⟨by omega, z⟩
      · exact Or.inr ⟨by omega, by omega, by omega, by omega⟩
    · rw [if_pos a]
      exact Or.inr ⟨a, b, by omega, by omega⟩
def TM (h : Hp) (T : Nat) (t : Nat → Nat) : Prop := T ≤ 700 ∧ h 68 4 = nI T ∧ ∀ i, i < T → t i < 256 ∧ h 72 i = nI (t i)
def LR (h : Hp) (t : Nat → Nat) (s e k : Nat) : Prop := h 68 8 = nI s ∧ h 68 7 = nI e ∧ h 68 9 = nI k ∧ h 68 10 = nI (if k = 2 then vR t s (e - s) else 0)
def FrR (h h' : Hp) : Prop := (∀ c, c ≠ 68 → h' c = h c) ∧ ∀ j, (j < 7 ∨ 10 < j) → h' 68 j = h 68 j
theorem FrR.refl (h : Hp) : FrR h h := ⟨fun _ _ => rfl, fun _ _ => rfl⟩
theorem FrR.trans {h1 h2 h3 : Hp} (a : FrR h1 h2) (b : FrR h2 h3) : FrR h1 h3 := ⟨fun c hc => (b.1 c hc).trans (a.1 c hc), fun j hj => (b.2 j hj).trans (a.2 j hj)⟩
theorem FrR.up {h : Hp} {j : Nat} {v : Int32} (hj : 7 ≤ j ∧ j ≤ 10) : FrR h (hp_up h 68 j v) := ⟨fun c hc => up_kk _ _ _ _ _ hc, fun i hi => up_j _ _ _ _ _ (by omega)⟩
theorem FrR.tm {h h' : Hp} {T : Nat} {t : Nat → Nat} (f : FrR h h') (c : TM h T t) : TM h' T t := by
  unfold TM
  rw [f.2 4 (by omega), f.1 72 (by omega)]
  exact c
theorem x_isAt {T p a b F : Nat} {t : Nat → Nat} {h : Hp} (c : TM h T t) (hp : h 68 7 = nI p) (hpT : p ≤ T) (ha : a < 256) (hb : b < 256) : f12_isAt F (nI a) (nI b) h = some (if p < T ∧ a ≤ t p ∧ t p ≤ b then nI 1 else nI 0, h) := by
  have hT := c.1
  refine Ev.eq ?_
  unfold f12_isAt
  by_cases z : p < T
  · have tb := c.2.2 p z
    refine Ev.neg (by rw [c.2.1, hp]; simp (disch := omega) only [up_s, up_k, up_j, mm_neg, mm_def, ni_lt, ni_le, ni_eq, ni_mm, mm_ni, ni_lt_mm, ni_le_mm, mm_lt_ni, mm_le_ni, mm_lt_mm, mm_le_mm, ni_cl, ni_in, nI_add, ni_mul, ni_div, ni_rem, ni_rem2, fr_sub, fr_mm, fr_ge0, fr_lt0, fr_inj, l32_0, l32_1, l32_2, l32_3, l32_4, l32_5, l32_6, l32_7, l32_8, l32_9, l32_10, l32_11, l32_12, l32_13, l32_14, l32_15, l32_16, l32_20, l32_24, l32_25, l32_26, l32_31, l32_32, l32_34, l32_35, l32_39, l32_40, l32_44, l32_45, l32_46, l32_47, l32_48, l32_49, l32_57, l32_58, l32_59, l32_63, l32_64, l32_85, l32_90, l32_97, l32_99, l32_100, l32_110, l32_112, l32_122, l32_124, l32_125, l32_255, l32_680, l32_699, l32_700, l32_999, l32_2500, l32_99999, l32_100000, l32_1000000, if_true, if_false, ite_true, ite_false, ce_nm, Option.bind, if_pos, if_neg]; omega) (Ev.grd (by rw [hp]; exact ni_in (by omega) (by omega)) ?_)
    rw [hp, ni_cl (by omega), tb.2, x_in]
    refine ev_bs ?_
    dsimp only
    have e : (nI a ≤ nI (t p) ∧ nI (t p) ≤ nI b) = (a ≤ t p ∧ t p ≤ b) := by rw [ni_le (by omega) (by omega), ni_le (by omega) (by omega)]
    by_cases y : a ≤ t p ∧ t p ≤ b
    · refine Ev.neg (by rw [if_pos (by rw [e]; exact y)]; decide) (Ev.some ?_)
      rw [if_pos ⟨z, y⟩]
      rfl
    · refine Ev.pos (by rw [if_neg (by rw [e]; exact y)]; rfl) (Ev.some ?_)
      rw [if_neg (fun q => y q.2)]
      rfl
  · refine Ev.pos (by rw [c.2.1, hp]; simp (disch := omega) only [up_s, up_k, up_j, mm_neg, mm_def, ni_lt, ni_le, ni_eq, ni_mm, mm_ni, ni_lt_mm, ni_le_mm, mm_lt_ni, mm_le_ni, mm_lt_mm, mm_le_mm, ni_cl, ni_in, nI_add, ni_mul, ni_div, ni_rem, ni_rem2, fr_sub, fr_mm, fr_ge0, fr_lt0, fr_inj, l32_0, l32_1, l32_2, l32_3, l32_4, l32_5, l32_6, l32_7, l32_8, l32_9, l32_10, l32_11, l32_12, l32_13, l32_14, l32_15, l32_16, l32_20, l32_24, l32_25, l32_26, l32_31, l32_32, l32_34, l32_35, l32_39, l32_40, l32_44, l32_45, l32_46, l32_47, l32_48, l32_49, l32_57, l32_58, l32_59, l32_63, l32_64, l32_85, l32_90, l32_97, l32_99, l32_100, l32_110, l32_112, l32_122, l32_124, l32_125, l32_255, l32_680, l32_699, l32_700, l32_999, l32_2500, l32_99999, l32_100000, l32_1000000, if_true, if_false, ite_true, ite_false, ce_nm, Option.bind, if_pos, if_neg]; omega) (Ev.some ?_)
    rw [if_neg (fun q => z q.1)]
    rfl
theorem x_next {T p F : Nat} {t : Nat → Nat} {h : Hp} (c : TM h T t) (hp : h 68 7 = nI p) (hpT : p ≤ T) (hF : 1000 ≤ F) : Ev (f12_next F h) (fun h' => FrR h h' ∧ ∃ s e k, TK t T p s e k ∧ LR h' t s e k) := by
  have hT := c.1
  have n1 : ¬ (nI 1 : Int32) = 0 := by decide
  unfold f12_next
  refine Ev.bind (P := fun h1 => FrR h h1 ∧ ∃ s, RE T (blk t) p s ∧ h1 68 7 = nI s) ?_ (fun h1 hh1 => ?_)
  · refine Ev.it (I := fun i st => FrR h st ∧ p + i ≤ T ∧ st 68 7 = nI (p + i) ∧ ∀ s, RE T (blk t) p s ↔ RE T (blk t) (p + i) s) _ 700 ?_ F 0 _ (by omega) (by omega) ⟨FrR.refl _, by omega, hp, fun s => Iff.rfl⟩
    rintro i h1 hi ⟨f1, hpi, s1, eqv⟩
    show Ev (f12_next_b0 F h1) _
    have c1 := f1.tm c
    have go : p + i < T → blk t (p + i) → Ev (ce_nm (hp_up h1 68 7 ((h1 68 7) + (1 : Int32))) (fun h_29 => (some (.inl h_29) : Option (Hp ⊕ Hp)))) (fun o => ∃ h2, o = .inl h2 ∧ FrR h h2 ∧ p + (i + 1) ≤ T ∧ h2 68 7 = nI (p + (i + 1)) ∧ ∀ s, RE T (blk t) p s ↔ RE T (blk t) (p + (i + 1)) s) := fun q1 q2 => Ev.nm (Ev.some ⟨_, rfl, f1.trans (FrR.up (by omega)), by omega, by rw [up_s, s1]; exact nI_1 _, fun s => by rw [eqv s]; exact RE.step q1 q2⟩)
    unfold f12_next_b0
    rw [show (32 : Int32) = nI 32 from rfl, show (10 : Int32) = nI 10 from rfl, x_isAt c1 s1 hpi (by omega) (by omega)]
    refine ev_bs ?_
    dsimp only
    by_cases b1 : p + i < T ∧ 32 ≤ t (p + i) ∧ t (p + i) ≤ 32
    · refine Ev.neg (by rw [if_pos b1]; decide) (Ev.mono (go b1.1 (Or.inl (by omega))) (fun o ho => ?_))
      obtain ⟨h2, rfl, r1, r2, r3, r4⟩ := ho
      exact ⟨by omega, r1, r2, r3, r4⟩
    · refine Ev.pos (by rw [if_neg b1]; rfl) ?_
      rw [x_isAt c1 s1 hpi (by omega) (by omega)]
      refine ev_bs ?_
      dsimp only
      by_cases b2 : p + i < T ∧ 10 ≤ t (p + i) ∧ t (p + i) ≤ 10
      · refine Ev.neg (by rw [if_pos b2]; decide) (Ev.mono (go b2.1 (Or.inr (by omega))) (fun o ho => ?_))
        obtain ⟨h2, rfl, r1, r2, r3, r4⟩ := ho
        exact ⟨by omega, r1, r2, r3, r4⟩
      · refine Ev.pos (by rw [if_neg b2]; rfl) (Ev.some ⟨f1, p + i, (eqv _).mpr (RE.stop ?_), s1⟩)
        rintro ⟨q1, q2⟩
        rcases q2 with q | q
        · exact b1 ⟨q1, by omega, by omega⟩
        · exact b2 ⟨q1, by omega, by omega⟩
  · obtain ⟨f1, s, rs, s1⟩ := hh1
    have sT := rs.le hpT
    refine Ev.nm (Ev.nm ?_)
    rw [s1]
    obtain ⟨h2, eh2⟩ : ∃ h2, h2 = hp_up (hp_up h1 68 8 (nI s)) 68 10 0 := ⟨_, rfl⟩
    rw [← eh2]
    have f2 : FrR h h2 := by rw [eh2]; exact (f1.trans (FrR.up (by omega))).trans (FrR.up (by omega))
    have c2 := f2.tm c
    have g7 : h2 68 7 = nI s := by rw [eh2, up_j _ _ _ _ _ (by omega), up_j _ _ _ _ _ (by omega)]; exact s1
    have g8 : h2 68 8 = nI s := by rw [eh2, up_j _ _ _ _ _ (by omega), up_s]
    have g10 : h2 68 10 = nI 0 := by rw [eh2, up_s]; rfl
    by_cases z : s < T
    rotate_left
    · have : s = T := by omega
      refine Ev.pos (by rw [g7, c2.2.1, this]) (Ev.nm (Ev.some ⟨f2.trans (FrR.up (by omega)), s, s, 0, ⟨rs, Or.inl ⟨by omega, rfl, rfl⟩⟩, ?_, ?_, ?_, ?_⟩))
      · rw [up_j _ _ _ _ _ (by omega)]; exact g8
      · rw [up_j _ _ _ _ _ (by omega)]; exact g7
      · rw [up_s]; rfl
      · rw [up_j _ _ _ _ _ (by omega), if_neg (by omega)]; exact g10
    · have tb := (c.2.2 s z).1
      refine Ev.neg (by rw [g7, c2.2.1, ni_eq (by omega) (by omega)]; omega) ?_
      rw [show (97 : Int32) = nI 97 from rfl, show (122 : Int32) = nI 122 from rfl, show (48 : Int32) = nI 48 from rfl, show (57 : Int32) = nI 57 from rfl, show (59 : Int32) = nI 59 from rfl, x_isAt c2 g7 (by omega) (by omega) (by omega)]
      refine ev_bs ?_
      dsimp only
      by_cases k1 : kd (t s) = 1
      · refine Ev.neg (by rw [if_pos ⟨z, kd_1.mp k1⟩]; decide) (Ev.nm ?_)
        refine Ev.bind (P := fun h' => FrR h h' ∧ ∃ s e k, TK t T p s e k ∧ LR h' t s e k) ?_ (fun r hr => Ev.some hr)
        refine Ev.it (I := fun i st => FrR h st ∧ s + i ≤ T ∧ st 68 9 = nI 1 ∧ st 68 8 = nI s ∧ st 68 7 = nI (s + i) ∧ st 68 10 = nI 0 ∧ ∀ e, RE T (fun j => kd (t j) = 1) s e ↔ RE T (fun j => kd (t j) = 1) (s + i) e) _ 700 ?_ F 0 _ (by omega) (by omega) ⟨f2.trans (FrR.up (by omega)), by omega, by rw [up_s]; rfl, by rw [up_j _ _ _ _ _ (by omega)]; exact g8, by rw [up_j _ _ _ _ _ (by omega)]; exact g7, by rw [up_j _ _ _ _ _ (by omega)]; exact g10, fun e => Iff.rfl⟩
        rintro i h3 hi ⟨f3, le3, q9, q8, q7, q10, eqv⟩
        show Ev (f12_next_b83 F h3) _
        have c3 := f3.tm c
        unfold f12_next_b83
        rw [show (97 : Int32) = nI 97 from rfl, show (122 : Int32) = nI 122 from rfl, x_isAt c3 q7 le3 (by omega) (by omega)]
        refine ev_bs ?_
        dsimp only
        by_cases w : s + i < T ∧ 97 ≤ t (s + i) ∧ t (s + i) ≤ 122
        · refine Ev.neg (by rw [if_pos w]; decide) (Ev.nm (Ev.some ⟨by omega, f3.trans (FrR.up (by omega)), by omega, ?_, ?_, ?_, ?_, fun e => ?_⟩))
          · rw [up_j _ _ _ _ _ (by omega)]; exact q9
          · rw [up_j _ _ _ _ _ (by omega)]; exact q8
          · rw [up_s, q7]; exact nI_1 _
          · rw [up_j _ _ _ _ _ (by omega)]; exact q10
          · rw [eqv e]; exact RE.step w.1 (kd_1.mpr w.2)
        · refine Ev.pos (by rw [if_neg w]; rfl) (Ev.some ⟨f3, s, s + i, 1, ⟨rs, Or.inr ⟨z, k1.symm, fun _ => (eqv _).mpr (RE.stop (fun q => w ⟨q.1, kd_1.mp q.2⟩)), fun y => absurd (Or.inl rfl) y⟩⟩, q8, q7, q9, ?_⟩)
          rw [if_neg (by omega)]; exact q10
      · refine Ev.pos (by rw [if_neg (fun q => k1 (kd_1.mpr q.2))]; rfl) ?_
        rw [x_isAt c2 g7 (by omega) (by omega) (by omega)]
        refine ev_bs ?_
        dsimp only
        by_cases k2 : kd (t s) = 2
        · refine Ev.neg (by rw [if_pos ⟨z, kd_2.mp k2⟩]; decide) (Ev.nm ?_)
          refine Ev.bind (P := fun h' => FrR h h' ∧ ∃ s e k, TK t T p s e k ∧ LR h' t s e k) ?_ (fun r hr => Ev.some hr)
          refine Ev.it (I := fun i st => FrR h st ∧ s + i ≤ T ∧ st 68 9 = nI 2 ∧ st 68 8 = nI s ∧ st 68 7 = nI (s + i) ∧ st 68 10 = nI (vR t s i) ∧ vR t s i ≤ 99999 ∧ ∀ e, RE T (fun j => kd (t j) = 2) s e ↔ RE T (fun j => kd (t j) = 2) (s + i) e) _ 700 ?_ F 0 _ (by omega) (by omega) ⟨f2.trans (FrR.up (by omega)), by omega, by rw [up_s]; rfl, by rw [up_j _ _ _ _ _ (by omega)]; exact g8, by rw [up_j _ _ _ _ _ (by omega)]; exact g7, by rw [up_j _ _ _ _ _ (by omega)]; exact g10, Nat.zero_le _, fun e => Iff.rfl⟩
          rintro i h3 hi ⟨f3, le3, q9, q8, q7, q10, v9, eqv⟩
          show Ev (f12_next_b123 F h3) _
          have c3 := f3.tm c
          unfold f12_next_b123
          rw [show f12_isAt F (48 : Int32) (57 : Int32) h3 = f12_isAt F (nI 48) (nI 57) h3 from rfl, x_isAt c3 q7 le3 (by omega) (by omega)]
          refine ev_bs ?_
          dsimp only
          by_cases w : s + i < T ∧ 48 ≤ t (s + i) ∧ t (s + i) ≤ 57
          · have nv : (if ((10 : Int32) * h3 68 10 + h3 72 (h3 68 7).toNatClampNeg - (48 : Int32)) < (99999 : Int32) then ((10 : Int32) * h3 68 10 + h3 72 (h3 68 7).toNatClampNeg - (48 : Int32)) else (99999 : Int32)) = nI (vR t s (i + 1)) := by
              have e1 : (10 : Int32) * h3 68 10 + h3 72 (h3 68 7).toNatClampNeg - (48 : Int32) = nI (10 * vR t s i + (t (s + i) - 48)) := by
                rw [q10, q7, ni_cl (by omega), (c3.2.2 _ w.1).2, l32_10, ni_mul, nI_add, l32_48, ni_sub (by omega)]
                congr 1
                omega
              rw [e1, vR_s, show (99999 : Int32) = nI 99999 from rfl]
              by_cases y : 10 * vR t s i + (t (s + i) - 48) < 99999
              · rw [if_pos (by rw [ni_lt (by omega) (by omega)]; exact y), Nat.min_eq_right (by omega)]
              · rw [if_neg (by rw [ni_lt (by omega) (by omega)]; exact y), Nat.min_eq_left (by omega)]
            refine Ev.neg (by rw [if_pos w]; decide) (Ev.grd (by rw [q7]; exact ni_in (by omega) (by omega)) (Ev.nm (Ev.nm (Ev.some ⟨by omega, (f3.trans (FrR.up (by omega))).trans (FrR.up (by omega)), by omega, ?_, ?_, ?_, ?_, ?_, fun e => ?_⟩))))
            · rw [up_j _ _ _ _ _ (by omega), up_j _ _ _ _ _ (by omega)]; exact q9
            · rw [up_j _ _ _ _ _ (by omega), up_j _ _ _ _ _ (by omega)]; exact q8
            · rw [up_s, up_j _ _ _ _ _ (by omega), q7]; exact nI_1 _
            · rw [up_j _ _ _ _ _ (by omega), up_s]; exact nv
            · rw [vR_s]; exact Nat.min_le_left _ _
            · rw [eqv e]; exact RE.step w.1 (kd_2.mpr w.2)
          · refine Ev.pos (by rw [if_neg w]; rfl) (Ev.some ⟨f3, s, s + i, 2, ⟨rs, Or.inr ⟨z, k2.symm, fun _ => (eqv _).mpr (RE.stop (fun q => w ⟨q.1, kd_2.mp q.2⟩)), fun y => absurd (Or.inr rfl) y⟩⟩, q8, q7, q9, ?_⟩)
            rw [if_pos rfl, show s + i - s = i by omega]; exact q10
        · refine Ev.pos (by rw [if_neg (fun q => k2 (kd_2.mpr q.2))]; rfl) ?_
          rw [x_isAt c2 g7 (by omega) (by omega) (by omega)]
          refine ev_bs ?_
          dsimp only
          have kk := kd_le (t s)
          by_cases k3 : kd (t s) = 3
          · have t59 := kd_3.mp k3
            refine Ev.neg (by rw [if_pos ⟨z, by omega, by omega⟩]; decide) (Ev.nm (Ev.nm (Ev.some ⟨(f2.trans (FrR.up (by omega))).trans (FrR.up (by omega)), s, s + 1, 3, ⟨rs, Or.inr ⟨z, k3.symm, fun y => by omega, fun _ => rfl⟩⟩, ?_, ?_, ?_, ?_⟩)))
            · rw [up_j _ _ _ _ _ (by omega), up_j _ _ _ _ _ (by omega)]; exact g8
            · rw [up_s, up_j _ _ _ _ _ (by omega), g7]; exact nI_1 _
            · rw [up_j _ _ _ _ _ (by omega), up_s]; rfl
            · rw [up_j _ _ _ _ _ (by omega), up_j _ _ _ _ _ (by omega), if_neg (by omega)]; exact g10
          · have k4 : kd (t s) = 4 := by omega
            refine Ev.pos (by rw [if_neg (fun q => k3 (kd_3.mpr (by omega)))]; rfl) (Ev.nm (Ev.nm (Ev.some ⟨(f2.trans (FrR.up (by omega))).trans (FrR.up (by omega)), s, s + 1, 4, ⟨rs, Or.inr ⟨z, k4.symm, fun y => by omega, fun _ => rfl⟩⟩, ?_, ?_, ?_, ?_⟩)))
            · rw [up_j _ _ _ _ _ (by omega), up_j _ _ _ _ _ (by omega)]; exact g8
            · rw [up_s, up_j _ _ _ _ _ (by omega), g7]; exact nI_1 _
            · rw [up_j _ _ _ _ _ (by omega), up_s]; rfl
            · rw [up_j _ _ _ _ _ (by omega), up_j _ _ _ _ _ (by omega), if_neg (by omega)]; exact g10
