-- built, fault, count
def tl (n : Nat) (len L : Nat → Nat) (i p : Nat) : Nat := if i < n ∧ p < len i then L (4 * i + p) + 1 else 0
theorem x_letterAt {kt n F i p : Nat} {len L : Nat → Nat} {h : Hp} (hk : ce_isTold kt) (ok : okL n len L) (h0 : h kt 0 = nI n) (td : TkD h kt n len L (bld len L n)) (hi : i < 2147483648) (hp : p < 2147483648) : f9_letterAt F kt (nI i) (nI p) h = some (fr (tl n len L i p), h) := by
  have on := ok.1
  refine Ev.eq ?_
  unfold f9_letterAt tl
  refine Ev.neg (by simp (disch := omega) only [up_s, up_k, up_j, mm_neg, mm_def, ni_lt, ni_le, ni_eq, ni_mm, mm_ni, ni_lt_mm, ni_le_mm, mm_lt_ni, mm_le_ni, mm_lt_mm, mm_le_mm, ni_cl, ni_in, nI_add, ni_mul, ni_div, ni_rem, ni_rem2, fr_sub, fr_mm, fr_ge0, fr_lt0, fr_inj, l32_0, l32_1, l32_2, l32_3, l32_4, l32_5, l32_6, l32_7, l32_8, l32_9, l32_10, l32_11, l32_12, l32_13, l32_14, l32_15, l32_16, l32_20, l32_24, l32_25, l32_26, l32_31, l32_32, l32_34, l32_35, l32_39, l32_40, l32_44, l32_45, l32_46, l32_47, l32_48, l32_49, l32_57, l32_58, l32_59, l32_63, l32_64, l32_85, l32_90, l32_97, l32_99, l32_100, l32_110, l32_112, l32_122, l32_124, l32_125, l32_255, l32_680, l32_699, l32_700, l32_999, l32_2500, l32_99999, l32_100000, l32_1000000, if_true, if_false, ite_true, ite_false, ce_nm, Option.bind, if_pos, if_neg]; omega) ?_
  by_cases z : n ≤ i
  · refine Ev.pos (by rw [h0, ni_le (by omega) (by omega)]; exact z) (Ev.some ?_)
    rw [if_neg (by omega)]
    rfl
  · have l4 := (ok.2.1 i (by omega)).1
    refine Ev.neg (by rw [h0, ni_le (by omega) (by omega)]; exact z) (Ev.neg (by simp (disch := omega) only [up_s, up_k, up_j, mm_neg, mm_def, ni_lt, ni_le, ni_eq, ni_mm, mm_ni, ni_lt_mm, ni_le_mm, mm_lt_ni, mm_le_ni, mm_lt_mm, mm_le_mm, ni_cl, ni_in, nI_add, ni_mul, ni_div, ni_rem, ni_rem2, fr_sub, fr_mm, fr_ge0, fr_lt0, fr_inj, l32_0, l32_1, l32_2, l32_3, l32_4, l32_5, l32_6, l32_7, l32_8, l32_9, l32_10, l32_11, l32_12, l32_13, l32_14, l32_15, l32_16, l32_20, l32_24, l32_25, l32_26, l32_31, l32_32, l32_34, l32_35, l32_39, l32_40, l32_44, l32_45, l32_46, l32_47, l32_48, l32_49, l32_57, l32_58, l32_59, l32_63, l32_64, l32_85, l32_90, l32_97, l32_99, l32_100, l32_110, l32_112, l32_122, l32_124, l32_125, l32_255, l32_680, l32_699, l32_700, l32_999, l32_2500, l32_99999, l32_100000, l32_1000000, if_true, if_false, ite_true, ite_false, ce_nm, Option.bind, if_pos, if_neg]; omega) (Ev.grd (ni_in (by omega) (by omega)) ?_))
    rw [ni_cl hi]
    by_cases y : p < len i
    · have ix : (nI i * (4 : Int32)) + nI p = nI (4 * i + p) := by rw [show (4 : Int32) = nI 4 from rfl, ni_mul, nI_add]; congr 1; omega
      refine Ev.pos (by rw [td.2.1 i (by omega), ni_lt (by omega) (by omega)]; exact y) ?_
      rw [ix]
      refine Ev.grd (ni_in (by omega) (by omega)) (Ev.some ?_)
      rw [ni_cl (by omega), td.2.2 i (by omega) p y, if_pos ⟨by omega, y⟩, fr_s]
    · refine Ev.neg (by rw [td.2.1 i (by omega), ni_lt (by omega) (by omega)]; exact y) (Ev.some ?_)
      rw [if_neg (fun q => y q.2)]
      rfl
theorem ct_cut {q r : Nat → Bool} {l : Nat} : ∀ N, l ≤ N → (∀ p, p < N → r p = (decide (p < l) && q p)) → ct r N = ct q l := by
  intro N
  induction N with
  | zero => intro h _; rw [show l = 0 by omega]; rfl
  | succ N ih =>
    intro hl h
    by_cases z : l = N + 1
    · rw [z]
      exact ct_congr (fun p hp => by rw [h p hp]; simp; omega)
    · rw [ct_s, ih (by omega) (fun p hp => h p (by omega)), h N (by omega), if_neg (by simp; omega), Nat.add_zero]
theorem x_lettersOf {kt n F i : Nat} {len L : Nat → Nat} {h : Hp} (hk : ce_isTold kt) (ok : okL n len L) (h0 : h kt 0 = nI n) (td : TkD h kt n len L (bld len L n)) (hi : i < n) (hF : 1000 ≤ F) : f9_lettersOf F kt (nI i) (2 : Int32) h = some (nI (ct (cq L i) (len i)), h) := by
  have on := ok.1
  have l4 := (ok.2.1 i hi).1
  have e : ct (fun p => tl n len L i p == 3) 4 = ct (cq L i) (len i) := ct_cut 4 l4 (fun p hp => by
    unfold tl cq
    by_cases y : p < len i
    · rw [if_pos ⟨hi, y⟩]
      simp [y]
    · rw [if_neg (fun q => y q.2)]
      simp [y])
  refine Ev.eq ?_
  unfold f9_lettersOf
  refine Ev.bind (P := fun o => o = (nI (ct (cq L i) (len i)), h)) ?_ (fun o ho => by rw [ho]; exact Ev.some rfl)
  refine Ev.it (I := fun c st => c ≤ 4 ∧ st = (nI (ct (fun p => tl n len L i p == 3) c), nI c, h)) _ 4 ?_ F 0 _ (by omega) (by omega) ⟨by omega, rfl⟩
  rintro c st hc ⟨-, rfl⟩
  show Ev (f9_lettersOf_b5 F kt (nI i) (2 : Int32) (nI (ct (fun p => tl n len L i p == 3) c)) (nI c) h) _
  have nxt : nI c + (1 : Int32) = nI (c + 1) := nI_1 _
  have cl := ct_le (fun p => tl n len L i p == 3) c
  have cs := ct_s (fun p => tl n len L i p == 3) c
  unfold f9_lettersOf_b5
  rw [nxt]
  by_cases z : 4 ≤ c
  · refine Ev.pos (by simp (disch := omega) only [up_s, up_k, up_j, mm_neg, mm_def, ni_lt, ni_le, ni_eq, ni_mm, mm_ni, ni_lt_mm, ni_le_mm, mm_lt_ni, mm_le_ni, mm_lt_mm, mm_le_mm, ni_cl, ni_in, nI_add, ni_mul, ni_div, ni_rem, ni_rem2, fr_sub, fr_mm, fr_ge0, fr_lt0, fr_inj, l32_0, l32_1, l32_2, l32_3, l32_4, l32_5, l32_6, l32_7, l32_8, l32_9, l32_10, l32_11, l32_12, l32_13, l32_14, l32_15, l32_16, l32_20, l32_24, l32_25, l32_26, l32_31, l32_32, l32_34, l32_35, l32_39, l32_40, l32_44, l32_45, l32_46, l32_47, l32_48, l32_49, l32_57, l32_58, l32_59, l32_63, l32_64, l32_85, l32_90, l32_97, l32_99, l32_100, l32_110, l32_112, l32_122, l32_124, l32_125, l32_255, l32_680, l32_699, l32_700, l32_999, l32_2500, l32_99999, l32_100000, l32_1000000, if_true, if_false, ite_true, ite_false, ce_nm, Option.bind, if_pos, if_neg]; exact z) (Ev.some ?_)
    rw [show c = 4 by omega, e]
  · have tb : tl n len L i c ≤ 3 := by
      unfold tl
      by_cases y : c < len i
      · rw [if_pos ⟨hi, y⟩]
        have := (ok.2.1 i hi).2.1 c y
        omega
      · rw [if_neg (fun q => y q.2)]; omega
    refine Ev.neg (by simp (disch := omega) only [up_s, up_k, up_j, mm_neg, mm_def, ni_lt, ni_le, ni_eq, ni_mm, mm_ni, ni_lt_mm, ni_le_mm, mm_lt_ni, mm_le_ni, mm_lt_mm, mm_le_mm, ni_cl, ni_in, nI_add, ni_mul, ni_div, ni_rem, ni_rem2, fr_sub, fr_mm, fr_ge0, fr_lt0, fr_inj, l32_0, l32_1, l32_2, l32_3, l32_4, l32_5, l32_6, l32_7, l32_8, l32_9, l32_10, l32_11, l32_12, l32_13, l32_14, l32_15, l32_16, l32_20, l32_24, l32_25, l32_26, l32_31, l32_32, l32_34, l32_35, l32_39, l32_40, l32_44, l32_45, l32_46, l32_47, l32_48, l32_49, l32_57, l32_58, l32_59, l32_63, l32_64, l32_85, l32_90, l32_97, l32_99, l32_100, l32_110, l32_112, l32_122, l32_124, l32_125, l32_255, l32_680, l32_699, l32_700, l32_999, l32_2500, l32_99999, l32_100000, l32_1000000, if_true, if_false, ite_true, ite_false, ce_nm, Option.bind, if_pos, if_neg]; exact z) ?_
    rw [x_letterAt hk ok h0 td (by omega) (by omega)]
    refine ev_bs ?_
    dsimp only
    by_cases y : tl n len L i c = 3
    · refine Ev.pos (by rw [y]; rfl) (Ev.some ⟨by omega, by omega, ?_⟩)
      rw [if_pos (by simp [y])] at cs
      rw [cs, nI_1]
    · refine Ev.neg (by rw [show (2 : Int32) = fr 3 from rfl, fr_inj (by omega) (by omega)]; exact y) (Ev.some ⟨by omega, by omega, ?_⟩)
      rw [if_neg (by simp [y])] at cs
      rw [cs]
      rfl
def dpt (par : Nat → Nat) : Nat → Nat → Nat
  | 0, _ => 0
  | f + 1, k => if par k = 0 then 0 else 1 + dpt par f (par k - 1)
theorem dpt_s (par : Nat → Nat) (f k : Nat) : dpt par (f + 1) k = if par k = 0 then 0 else 1 + dpt par f (par k - 1) := rfl
theorem dpt_le (par : Nat → Nat) : ∀ f k, dpt par f k ≤ f := by
  intro f
  induction f with
  | zero => intro k; exact Nat.le_refl _
  | succ f ih =>
    intro k
    rw [dpt_s]
    by_cases z : par k = 0
    · rw [if_pos z]; omega
    · rw [if_neg z]
      have := ih (par k - 1)
      omega
theorem x_toRoot {kt n F i : Nat} {h : Hp} {par : Nat → Nat} (on : n ≤ 12) (hp : ∀ k, k < n → par k ≤ n ∧ (par k ≠ 0 → k + 1 < par k)) (h1 : ∀ k, k < n → h (kt + 1) k = fr (par k)) (hi : i < n) (hF : 1000 ≤ F) : f9_cablesToRoot F kt (nI i) h = some (nI (dpt par 12 i), h) := by
  refine Ev.eq ?_
  unfold f9_cablesToRoot
  refine Ev.bind (P := fun o => o = (nI (dpt par 12 i), h)) ?_ (fun o ho => by rw [ho]; exact Ev.some rfl)
  refine Ev.it (I := fun c st => ∃ a, c ≤ a ∧ a < n ∧ st = (nI c, nI a, h) ∧ dpt par 12 i = c + dpt par (12 - c) a) _ 12 ?_ F 0 _ (by omega) (by omega) ⟨i, by omega, hi, rfl, (Nat.zero_add _).symm⟩
  rintro c st hc ⟨a, ca, an, rfl, e⟩
  show Ev (f9_cablesToRoot_b4 F kt (nI c) (nI a) h) _
  obtain ⟨p1, p2⟩ := hp a an
  have nxt : nI c + (1 : Int32) = nI (c + 1) := nI_1 _
  rw [show 12 - c = (12 - (c + 1)) + 1 by omega, dpt_s par (12 - (c + 1)) a] at e
  unfold f9_cablesToRoot_b4
  rw [nxt]
  refine Ev.neg (by simp (disch := omega) only [up_s, up_k, up_j, mm_neg, mm_def, ni_lt, ni_le, ni_eq, ni_mm, mm_ni, ni_lt_mm, ni_le_mm, mm_lt_ni, mm_le_ni, mm_lt_mm, mm_le_mm, ni_cl, ni_in, nI_add, ni_mul, ni_div, ni_rem, ni_rem2, fr_sub, fr_mm, fr_ge0, fr_lt0, fr_inj, l32_0, l32_1, l32_2, l32_3, l32_4, l32_5, l32_6, l32_7, l32_8, l32_9, l32_10, l32_11, l32_12, l32_13, l32_14, l32_15, l32_16, l32_20, l32_24, l32_25, l32_26, l32_31, l32_32, l32_34, l32_35, l32_39, l32_40, l32_44, l32_45, l32_46, l32_47, l32_48, l32_49, l32_57, l32_58, l32_59, l32_63, l32_64, l32_85, l32_90, l32_97, l32_99, l32_100, l32_110, l32_112, l32_122, l32_124, l32_125, l32_255, l32_680, l32_699, l32_700, l32_999, l32_2500, l32_99999, l32_100000, l32_1000000, if_true, if_false, ite_true, ite_false, ce_nm, Option.bind, if_pos, if_neg]; omega) (Ev.grd (ni_in (by omega) (by omega)) ?_)
  have hv : h (kt + 1) (nI a).toNatClampNeg = fr (par a) := by rw [ni_cl (by omega)]; exact h1 a an
  by_cases z : par a = 0
  · refine Ev.pos (by rw [hv, z]; rfl) (Ev.some ?_)
    rw [if_pos z, Nat.add_zero] at e
    rw [e]
  · rw [if_neg z] at e
    have := p2 z
    refine Ev.neg (by rw [hv, mm_def, fr_mm (by omega)]; exact z) (Ev.grd (ni_in (by omega) (by omega)) (Ev.some ⟨by omega, par a - 1, by omega, by omega, ?_, by omega⟩))
    rw [hv, fr_p (by omega)]
theorem q_built {F : Nat} {h : Hp} (hF : 1000 ≤ F) (x1 x2 : Int32) (ot : OT h) : ∃ V, f11_built F x1 x2 h = some (V, h) ∧ f12_built F x1 x2 h = some (V, h) := by
  obtain ⟨kt, n, len, L, a1, a2, hk, ok, h0, td, h29, lm, tm⟩ := ot
  have on := ok.1
  have bk := told_le hk
  have ga := ok.2.2
  obtain ⟨g1, g2, g3, g4, g5⟩ := ga
  have e29 : h 68 29 - (1 : Int32) = fr n := by rw [h29, l32_1, fr_sub]
  have out : (∀ i, i < n → x1 ≠ nI i) → ∃ V, f11_built F x1 x2 h = some (V, h) ∧ f12_built F x1 x2 h = some (V, h) := fun no => by
    refine ⟨-2, Ev.eq ?_, Ev.eq ?_⟩
    · unfold f11_built
      by_cases ng : x1 < 0
      · exact Ev.pos ng (Ev.some rfl)
      · refine Ev.neg ng (Ev.nm ?_)
        rw [a1, ni_cl (by omega)]
        refine Ev.grd hk (Ev.neg ?_ (Ev.some rfl))
        rcases i32_of x1 with q | ⟨i, hi, rfl⟩
        · exact absurd q ng
        · rw [h0, ni_lt (by omega) (by omega)]
          exact fun q => no i q rfl
    · unfold f12_built
      rw [e29, show (0 : Int64) = (nI 0).toInt64 from rfl, x_in]
      refine ev_bs (Ev.pos ?_ (Ev.some rfl))
      dsimp only
      rw [if_neg]
      · rfl
      · rintro ⟨q1, q2⟩
        rcases i32_of x1 with q | ⟨i, hi, rfl⟩
        · have b1 := Int32.le_iff_toInt_le.mp q1
          have b2 := Int32.lt_iff_toInt_lt.mp q
          omega
        · by_cases nz : n = 0
          · rw [nz, fr_0, ni_le_mm hi] at q2; exact q2
          · rw [fr_p (by omega), ni_le (by omega) (by omega)] at q2
            exact no i (by omega) rfl
  by_cases ex : ∃ i, i < n ∧ x1 = nI i
  rotate_left
  · exact out (fun i hi q => ex ⟨i, hi, q⟩)
  obtain ⟨i, hi, rfl⟩ := ex
  have ci : ce_in (nI i) 12 = true := ni_in (by omega) (by omega)
  have ei : (nI i).toNatClampNeg = i := ni_cl (by omega)
  obtain ⟨t1, t2, t3⟩ := td.1 i hi
  obtain ⟨m1, m2, m3⟩ := tm i hi
  -- the class, up to what is asked
  have cls : ∀ Q : Int32 × Hp → Prop, Ev (if x2 = (0 : Int32) then some (h (kt + 1) i, h) else if x2 = (1 : Int32) then some (h (kt + 2) i, h) else if x2 = (2 : Int32) then some (h (kt + 3) i, h) else if x2 = (3 : Int32) then some (nI (ct (cq L i) (len i)), h) else if x2 = (4 : Int32) then some (nI (dpt (bld len L n).2.2.1 12 i), h) else some ((-2 : Int32), h)) Q → Ev (f11_built F (nI i) x2 h) Q := fun Q q => by
    unfold f11_built
    refine Ev.neg (by simp (disch := omega) only [up_s, up_k, up_j, mm_neg, mm_def, ni_lt, ni_le, ni_eq, ni_mm, mm_ni, ni_lt_mm, ni_le_mm, mm_lt_ni, mm_le_ni, mm_lt_mm, mm_le_mm, ni_cl, ni_in, nI_add, ni_mul, ni_div, ni_rem, ni_rem2, fr_sub, fr_mm, fr_ge0, fr_lt0, fr_inj, l32_0, l32_1, l32_2, l32_3, l32_4, l32_5, l32_6, l32_7, l32_8, l32_9, l32_10, l32_11, l32_12, l32_13, l32_14, l32_15, l32_16, l32_20, l32_24, l32_25, l32_26, l32_31, l32_32, l32_34, l32_35, l32_39, l32_40, l32_44, l32_45, l32_46, l32_47, l32_48, l32_49, l32_57, l32_58, l32_59, l32_63, l32_64, l32_85, l32_90, l32_97, l32_99, l32_100, l32_110, l32_112, l32_122, l32_124, l32_125, l32_255, l32_680, l32_699, l32_700, l32_999, l32_2500, l32_99999, l32_100000, l32_1000000, if_true, if_false, ite_true, ite_false, ce_nm, Option.bind, if_pos, if_neg]; omega) (Ev.nm ?_)
    rw [a1, ni_cl (by omega), ei]
    refine Ev.grd hk (Ev.pos (by rw [h0, ni_lt (by omega) (by omega)]; exact hi) ?_)
    by_cases c0 : x2 = 0
    · rw [if_pos c0] at q
      exact Ev.pos c0 (Ev.nm (Ev.grd hk (Ev.grd ci q)))
    · rw [if_neg c0] at q
      refine Ev.neg c0 ?_
      by_cases c1 : x2 = 1
      · rw [if_pos c1] at q
        exact Ev.pos c1 (Ev.nm (Ev.grd hk (Ev.grd ci q)))
      · rw [if_neg c1] at q
        refine Ev.neg c1 ?_
        by_cases c2 : x2 = 2
        · rw [if_pos c2] at q
          exact Ev.pos c2 (Ev.nm (Ev.grd hk (Ev.grd ci q)))
        · rw [if_neg c2] at q
          refine Ev.neg c2 ?_
          by_cases c3 : x2 = 3
          · rw [if_pos c3] at q
            refine Ev.pos c3 (Ev.nm (Ev.grd hk ?_))
            rw [x_lettersOf hk ok h0 td hi hF]
            exact ev_bs q
          · rw [if_neg c3] at q
            refine Ev.neg c3 ?_
            by_cases c4 : x2 = 4
            · rw [if_pos c4] at q
              refine Ev.pos c4 (Ev.nm (Ev.grd hk ?_))
              rw [x_toRoot on g4 (fun k hk' => (td.1 k hk').1) hi hF]
              exact ev_bs q
            · rw [if_neg c4] at q
              exact Ev.neg c4 q
  have ref : ∀ Q : Int32 × Hp → Prop, Ev (if (0 : Int32) ≤ x2 ∧ x2 ≤ (4 : Int32) then (if x2 = (0 : Int32) then some (h 90 i, h) else if x2 = (1 : Int32) then some (h 91 i, h) else if x2 = (2 : Int32) then some (h 92 i, h) else if x2 = (3 : Int32) then some (nI (ct (cq L i) (len i)), h) else some (nI (dpt (bld len L n).2.2.1 12 i), h)) else some ((-2 : Int32), h)) Q → Ev (f12_built F (nI i) x2 h) Q := fun Q q => by
    unfold f12_built
    rw [e29, show (0 : Int64) = (nI 0).toInt64 from rfl, x_in]
    refine ev_bs (Ev.neg (by dsimp only; rw [if_pos ⟨by rw [ni_le (by omega) (by omega)]; omega, by rw [fr_p (by omega), ni_le (by omega) (by omega)]; omega⟩]; decide) ?_)
    dsimp only
    rw [show (4 : Int64) = (4 : Int32).toInt64 from rfl, x_in]
    refine ev_bs ?_
    dsimp only
    by_cases rg : (0 : Int32) ≤ x2 ∧ x2 ≤ (4 : Int32)
    rotate_left
    · rw [if_neg rg] at q
      exact Ev.pos (by rw [if_neg (show ¬ (nI 0 ≤ x2 ∧ x2 ≤ (4 : Int32)) from rg)]; rfl) q
    · rw [if_pos rg] at q
      refine Ev.neg (by rw [if_pos (show nI 0 ≤ x2 ∧ x2 ≤ (4 : Int32) from rg)]; decide) ?_
      refine Ev.bind (P := fun o => o = (nI (ct (cq L i) (len i)), h)) ?_ (fun o ho => ?_)
      · refine Ev.it (I := fun c st => c ≤ n ∧ st = (nI (ct (fun k => (bld len L n).2.2.1 k == i + 1) c), nI c, h)) _ n ?_ F 0 _ (by omega) (by omega) ⟨by omega, rfl⟩
        rintro c st hc ⟨-, rfl⟩
        show Ev (f12_built_b36 F (nI i) x2 (nI (ct (fun k => (bld len L n).2.2.1 k == i + 1) c)) (nI c) h) _
        have nxt : nI c + (1 : Int32) = nI (c + 1) := nI_1 _
        have cl := ct_le (fun k => (bld len L n).2.2.1 k == i + 1) c
        have cs := ct_s (fun k => (bld len L n).2.2.1 k == i + 1) c
        unfold f12_built_b36
        rw [nxt]
        by_cases z : n ≤ c
        · refine Ev.pos (by rw [h29, ni_le (by omega) (by omega)]; exact z) (Ev.some ?_)
          rw [show c = n by omega, g5 i hi]
        · have hv : h 90 (nI c).toNatClampNeg = fr ((bld len L n).2.2.1 c) := by rw [ni_cl (by omega)]; exact (tm c (by omega)).1
          have gb := (g4 c (by omega)).1
          refine Ev.neg (by rw [h29, ni_le (by omega) (by omega)]; exact z) (Ev.grd (ni_in (by omega) (by omega)) ?_)
          by_cases y : (bld len L n).2.2.1 c = i + 1
          · refine Ev.pos (by rw [hv, y, fr_s]) (Ev.some ⟨by omega, by omega, ?_⟩)
            rw [if_pos (by simp [y])] at cs
            rw [cs, nI_1]
          · refine Ev.neg (by rw [hv, ← fr_s i, fr_inj (by omega) (by omega)]; exact y) (Ev.some ⟨by omega, by omega, ?_⟩)
            rw [if_neg (by simp [y])] at cs
            rw [cs, l32_0, nI_add]
      · rw [ho]
        refine Ev.bind (P := fun o => o = (nI (dpt (bld len L n).2.2.1 12 i), h)) ?_ (fun o ho => ?_)
        · refine Ev.it (I := fun c st => ∃ a, c ≤ a ∧ a < n ∧ st = (nI c, nI a, h) ∧ dpt (bld len L n).2.2.1 12 i = c + dpt (bld len L n).2.2.1 (12 - c) a) _ 12 ?_ F 0 _ (by omega) (by omega) ⟨i, by omega, hi, rfl, (Nat.zero_add _).symm⟩
          rintro c st hc ⟨a, ca, an, rfl, e⟩
          show Ev (f12_built_b76 F (nI i) x2 (nI (ct (cq L i) (len i))) (nI c) (nI a) h) _
          obtain ⟨p1, p2⟩ := g4 a an
          have nxt : nI c + (1 : Int32) = nI (c + 1) := nI_1 _
          rw [show 12 - c = (12 - (c + 1)) + 1 by omega, dpt_s (bld len L n).2.2.1 (12 - (c + 1)) a] at e
          unfold f12_built_b76
          rw [nxt]
          refine Ev.grd (ni_in (by omega) (by omega)) ?_
          have hv : h 90 (nI a).toNatClampNeg = fr ((bld len L n).2.2.1 a) := by rw [ni_cl (by omega)]; exact (tm a an).1
          by_cases z : (bld len L n).2.2.1 a = 0
          · refine Ev.pos (by rw [hv, z]; rfl) (Ev.some ?_)
            rw [if_pos z, Nat.add_zero] at e
            rw [e]
          · rw [if_neg z] at e
            have := p2 z
            refine Ev.neg (by rw [hv, mm_def, fr_mm (by omega)]; exact z) (Ev.grd (ni_in (by omega) (by omega)) (Ev.some ⟨by omega, (bld len L n).2.2.1 a - 1, by omega, by omega, ?_, by omega⟩))
            rw [hv, fr_p (by omega)]
        · rw [ho]
          dsimp only
          rw [ei]
          by_cases c0 : x2 = 0
          · rw [if_pos c0] at q
            exact Ev.pos c0 (Ev.grd ci q)
          · rw [if_neg c0] at q
            refine Ev.neg c0 ?_
            by_cases c1 : x2 = 1
            · rw [if_pos c1] at q
              exact Ev.pos c1 (Ev.grd ci q)
            · rw [if_neg c1] at q
              refine Ev.neg c1 ?_
              by_cases c2 : x2 = 2
              · rw [if_pos c2] at q
                exact Ev.pos c2 (Ev.grd ci q)
              · rw [if_neg c2] at q
                refine Ev.neg c2 ?_
                by_cases c3 : x2 = 3
                · rw [if_pos c3] at q
                  exact Ev.pos c3 q
                · rw [if_neg c3] at q
                  exact Ev.neg c3 q
  by_cases c0 : x2 = 0
  · refine ⟨fr ((bld len L n).2.2.1 i), Ev.eq (cls _ (Ev.pos c0 (Ev.some (by rw [t1])))), Ev.eq (ref _ (Ev.pos (by rw [c0]; decide) (Ev.pos c0 (Ev.some (by rw [m1])))))⟩
  · by_cases c1 : x2 = 1
    · refine ⟨fr ((bld len L n).2.2.2.1 i), Ev.eq (cls _ (Ev.neg c0 (Ev.pos c1 (Ev.some (by rw [t2]))))), Ev.eq (ref _ (Ev.pos (by rw [c1]; decide) (Ev.neg c0 (Ev.pos c1 (Ev.some (by rw [m2]))))))⟩
    · by_cases c2 : x2 = 2
      · refine ⟨fr ((bld len L n).2.2.2.2 i), Ev.eq (cls _ (Ev.neg c0 (Ev.neg c1 (Ev.pos c2 (Ev.some (by rw [t3])))))), Ev.eq (ref _ (Ev.pos (by rw [c2]; decide) (Ev.neg c0 (Ev.neg c1 (Ev.pos c2 (Ev.some (by rw [m3])))))))⟩
      · by_cases c3 : x2 = 3
        · refine ⟨_, Ev.eq (cls _ (Ev.neg c0 (Ev.neg c1 (Ev.neg c2 (Ev.pos c3 (Ev.some rfl)))))), Ev.eq (ref _ (Ev.pos (by rw [c3]; decide) (Ev.neg c0 (Ev.neg c1 (Ev.neg c2 (Ev.pos c3 (Ev.some rfl)))))))⟩
        · by_cases c4 : x2 = 4
          · refine ⟨_, Ev.eq (cls _ (Ev.neg c0 (Ev.neg c1 (Ev.neg c2 (Ev.neg c3 (Ev.pos c4 (Ev.some rfl))))))), Ev.eq (ref _ (Ev.pos (by rw [c4]; decide) (Ev.neg c0 (Ev.neg c1 (Ev.neg c2 (Ev.neg c3 (Ev.some rfl)))))))⟩
          · refine ⟨-2, Ev.eq (cls _ (Ev.neg c0 (Ev.neg c1 (Ev.neg c2 (Ev.neg c3 (Ev.neg c4 (Ev.some rfl))))))), Ev.eq (ref _ (Ev.neg ?_ (Ev.some rfl)))⟩
            rintro ⟨q1, q2⟩
            rcases i32_of x2 with q | ⟨b, hb, rfl⟩
            · have b1 := Int32.le_iff_toInt_le.mp q1
              have b2 := Int32.lt_iff_toInt_lt.mp q
              have : (nI 0).toInt = (0 : Int32).toInt := rfl
              omega
            · have q2' : nI b ≤ nI 4 := q2
              rw [ni_le (by omega) (by omega)] at q2'
              rcases (show b = 0 ∨ b = 1 ∨ b = 2 ∨ b = 3 ∨ b = 4 by omega) with rfl | rfl | rfl | rfl | rfl
              · exact c0 rfl
              · exact c1 rfl
              · exact c2 rfl
              · exact c3 rfl
              · exact c4 rfl
theorem q_fault {F T : Nat} {t : Nat → Nat} {h : Hp} (x : Int32) (tp : TP h T t) : ∃ V, f11_fault F x h = some (V, h) ∧ f12_fault F x h = some (V, h) := by
  unfold f11_fault f12_fault
  by_cases c0 : x = 0
  · exact ⟨h 1 4, by rw [if_pos c0], by rw [if_pos c0, tp.2.2.2.2.1]⟩
  · by_cases c1 : x = 1
    · exact ⟨h 1 5, by rw [if_neg c0, if_pos c1], by rw [if_neg c0, if_pos c1, tp.2.2.2.2.2]⟩
    · exact ⟨-1, by rw [if_neg c0, if_neg c1], by rw [if_neg c0, if_neg c1]⟩
theorem q_count {F T : Nat} {t : Nat → Nat} {h : Hp} {m : Nat → Nat} {kn : Nat} {ms : Nat → Nat → Nat} (hF : 1000 ≤ F) (x : Int32) (ra : RA h m kn ms) (tp : TP h T t) : ∃ V, f11_count F x h = some (V, h) ∧ Ev (f12_count F x h) (fun p => p.1 = V ∧ Fr 75 75 h p.2) := by
  obtain ⟨co, ch, -⟩ := ra
  obtain ⟨a1, hkn, on, mn, nr, alt⟩ := co
  have bn := net_le hkn
  have fr0 : Fr 75 75 h h := fun _ _ => rfl
  have net : ∀ (G : Nat → Option (Int32 × Hp)) (V : Int32), G kn = some (V, h) → ce_nm ((h 0 2).toNatClampNeg) (fun k => if ce_isNet k then G k else none) = some (V, h) := fun G V e => by
    refine Ev.eq (Ev.nm ?_)
    rw [a1, ni_cl (by omega)]
    exact Ev.grd hkn (Ev.of e rfl)
  have b7 : h 44 0 = nI (ct (fun u => bo (lst (og m) u = u)) (m 2)) ∧ h 44 1 = nI (ct (fun u => bo (lst (og m) u = u ∧ sz (og m) u ≤ cb (og m) u)) (m 2)) := by
    rcases alt with ⟨q1, q2, q3⟩ | l
    · have m2 := (on.2.2.2.2.2.2 q1).1
      rw [m2]
      exact ⟨q2, q3⟩
    · exact ⟨l.1.1, l.1.2.1⟩
  unfold f11_count f12_count
  by_cases c0 : x = 0
  · exact ⟨nI (m 2), by rw [if_pos c0]; exact net (fun k => some (h k 3, h)) _ (by rw [nr.1.2.1]), Ev.pos c0 (Ev.some ⟨mn 2 (by omega), fr0⟩)⟩
  by_cases c1 : x = 1
  · exact ⟨nI (ct (fun e => bo (og m e ≠ 0)) 40 / 2), by rw [if_neg c0, if_pos c1]; exact net (fun k => some (h k 4, h)) _ (by rw [nr.2.2.2.1]), Ev.neg c0 (Ev.pos c1 (Ev.bind (x_cablesOf on.1 mn hF) (fun o ho => Ev.some ⟨ho.1, by dsimp only; rw [ho.2]; exact fr0⟩)))⟩
  by_cases c2 : x = 2
  · exact ⟨nI (m 0), by rw [if_neg c0, if_neg c1, if_pos c2]; exact net (fun k => some (h k 1, h)) _ (by rw [nr.2.2.1]), Ev.neg c0 (Ev.neg c1 (Ev.pos c2 (Ev.some ⟨mn 0 (by omega), fr0⟩)))⟩
  by_cases c3 : x = 3
  · exact ⟨nI (m 1), by rw [if_neg c0, if_neg c1, if_neg c2, if_pos c3]; exact net (fun k => some (h k 2, h)) _ (by rw [nr.1.1]), Ev.neg c0 (Ev.neg c1 (Ev.neg c2 (Ev.pos c3 (Ev.some ⟨mn 1 (by omega), fr0⟩))))⟩
  by_cases c4 : x = 4
  · exact ⟨nI (m 4), by rw [if_neg c0, if_neg c1, if_neg c2, if_neg c3, if_pos c4, ch.1], Ev.neg c0 (Ev.neg c1 (Ev.neg c2 (Ev.neg c3 (Ev.pos c4 (Ev.some ⟨mn 4 (by omega), fr0⟩)))))⟩
  by_cases c5 : x = 5
  · exact ⟨nI (m 3), by rw [if_neg c0, if_neg c1, if_neg c2, if_neg c3, if_neg c4, if_pos c5]; exact net (fun k => some (h k 0, h)) _ (by rw [nr.2.1]), Ev.neg c0 (Ev.neg c1 (Ev.neg c2 (Ev.neg c3 (Ev.neg c4 (Ev.pos c5 (Ev.some ⟨mn 3 (by omega), fr0⟩))))))⟩
  by_cases c6 : x = 6
  · exact ⟨nI T, by rw [if_neg c0, if_neg c1, if_neg c2, if_neg c3, if_neg c4, if_neg c5, if_pos c6, tp.2.1], Ev.neg c0 (Ev.neg c1 (Ev.neg c2 (Ev.neg c3 (Ev.neg c4 (Ev.neg c5 (Ev.pos c6 (Ev.some ⟨tp.2.2.1, fr0⟩)))))))⟩
  by_cases c7 : x = 7
  · exact ⟨_, by rw [if_neg c0, if_neg c1, if_neg c2, if_neg c3, if_neg c4, if_neg c5, if_neg c6, if_pos c7, b7.1], Ev.neg c0 (Ev.neg c1 (Ev.neg c2 (Ev.neg c3 (Ev.neg c4 (Ev.neg c5 (Ev.neg c6 (Ev.pos c7 (Ev.bind (x_busesOf on.1 mn hF) (fun o ho => Ev.some ⟨ho.1, ho.2.1⟩)))))))))⟩
  by_cases c8 : x = 8
  · exact ⟨_, by rw [if_neg c0, if_neg c1, if_neg c2, if_neg c3, if_neg c4, if_neg c5, if_neg c6, if_neg c7, if_pos c8, b7.2], Ev.neg c0 (Ev.neg c1 (Ev.neg c2 (Ev.neg c3 (Ev.neg c4 (Ev.neg c5 (Ev.neg c6 (Ev.neg c7 (Ev.pos c8 (Ev.bind (x_loopsOf on.1 mn hF) (fun o ho => Ev.some ⟨ho.1, ho.2⟩))))))))))⟩
  · exact ⟨-1, by rw [if_neg c0, if_neg c1, if_neg c2, if_neg c3, if_neg c4, if_neg c5, if_neg c6, if_neg c7, if_neg c8], Ev.neg c0 (Ev.neg c1 (Ev.neg c2 (Ev.neg c3 (Ev.neg c4 (Ev.neg c5 (Ev.neg c6 (Ev.neg c7 (Ev.neg c8 (Ev.some ⟨rfl, fr0⟩)))))))))⟩
