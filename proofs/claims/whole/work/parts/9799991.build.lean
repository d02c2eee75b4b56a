-- the reference builds the tree again
theorem up_id (h : Hp) (k j : Nat) : hp_up h k j (h k j) = h := by
  funext a b
  rw [up_e]
  by_cases z : a = k ∧ b = j
  · rw [if_pos z, z.1, z.2]
  · rw [if_neg z]
def TkM (h : Hp) (n : Nat) (a : Ad) : Prop := ∀ i, i < n → h 90 i = fr (a.2.2.1 i) ∧ h 91 i = fr (a.2.2.2.1 i) ∧ h 92 i = fr (a.2.2.2.2 i)
def LtM (h : Hp) (n : Nat) (len L : Nat → Nat) : Prop := ∀ i, i < n → h 86 i = nI (len i) ∧ ∀ p, p < len i → h 87 (4 * i + p) = nI (L (4 * i + p))
theorem okL.pre {n : Nat} {len L : Nat → Nat} (ok : okL n len L) : ∀ i, i ≤ n → gA len L i (bld len L i) := by
  intro i
  induction i with
  | zero => exact fun _ => gA.zero _ _
  | succ i ih => exact fun hi => gA.next (ih (by omega)) (ok.2.1 i (by omega)).2.2
def FrB (h h' : Hp) : Prop := (∀ q, q ≠ 68 → q ≠ 90 → q ≠ 91 → q ≠ 92 → q ≠ 93 → h' q = h q) ∧ ∀ j, j ≠ 37 → h' 68 j = h 68 j
theorem FrB.refl (h : Hp) : FrB h h := ⟨fun _ _ _ _ _ _ => rfl, fun _ _ => rfl⟩
theorem FrB.trans {h1 h2 h3 : Hp} (a : FrB h1 h2) (b : FrB h2 h3) : FrB h1 h3 := ⟨fun q n1 n2 n3 n4 n5 => (b.1 q n1 n2 n3 n4 n5).trans (a.1 q n1 n2 n3 n4 n5), fun j hj => (b.2 j hj).trans (a.2 j hj)⟩
theorem FrB.up {h : Hp} {k j : Nat} {v : Int32} (hk : k = 90 ∨ k = 91 ∨ k = 92 ∨ k = 93 ∨ (k = 68 ∧ j = 37)) : FrB h (hp_up h k j v) := ⟨fun q n1 n2 n3 n4 n5 => up_kk _ _ _ _ _ (by omega), fun i hi => by
  rw [up_e, if_neg (by omega)]⟩
/-- the pile and what is built, n entries -/
def Bu (h : Hp) (n : Nat) (a : Ad) : Prop := h 68 37 = nI a.1 ∧ (∀ j, j < a.1 → h 93 j = nI (a.2.1 j)) ∧ TkM h n a
theorem z_builds {n F : Nat} {h : Hp} {len L : Nat → Nat} (ok : okL n len L) (h29 : h 68 29 = nI n) (lm : LtM h n len L) (hF : 1000 ≤ F) : Ev (f12_builds F h) (fun h' => FrB h h' ∧ TkM h' n (bld len L n)) := by
  have on := ok.1
  unfold f12_builds
  refine Ev.nm ?_
  obtain ⟨h1, eh1⟩ : ∃ h1, h1 = hp_up h 68 37 (0 : Int32) := ⟨_, rfl⟩
  rw [← eh1]
  have f1 : FrB h h1 := by rw [eh1]; exact FrB.up (by omega)
  have s37 : h1 68 37 = nI 0 := by rw [eh1, up_s]; rfl
  clear eh1
  refine Ev.bind (P := fun h' => FrB h h' ∧ Bu h' n (bld len L n)) ?_ (fun h' q => Ev.some ⟨q.1, q.2.2.2⟩)
  refine Ev.it (I := fun i st => i ≤ n ∧ st.1 = nI i ∧ FrB h st.2 ∧ Bu st.2 i (bld len L i)) _ n ?_ F 0 _ (by omega) (by omega) ⟨by omega, rfl, f1, s37, fun j hj => absurd hj (Nat.not_lt_zero j), fun i hi => absurd hi (Nat.not_lt_zero i)⟩
  rintro i ⟨x1, h2⟩ hi hI
  obtain ⟨-, rfl, f2, b37, b93, tkm⟩ : i ≤ n ∧ x1 = nI i ∧ FrB h h2 ∧ Bu h2 i (bld len L i) := hI
  show Ev (f12_builds_b7 F (nI i) h2) _
  have nxt : nI i + (1 : Int32) = nI (i + 1) := nI_1 _
  have e29 : h2 68 29 = nI n := by rw [f2.2 29 (by omega)]; exact h29
  unfold f12_builds_b7
  rw [nxt]
  by_cases z : n ≤ i
  · have ei : i = n := by omega
    rw [ei] at b37 b93 tkm
    exact Ev.pos (by rw [e29]; simp (disch := omega) only [up_s, up_k, up_j, mm_neg, mm_def, ni_lt, ni_le, ni_eq, ni_mm, mm_ni, ni_lt_mm, ni_le_mm, mm_lt_ni, mm_le_ni, mm_lt_mm, mm_le_mm, ni_cl, ni_in, nI_add, ni_mul, ni_div, ni_rem, ni_rem2, fr_sub, fr_mm, fr_ge0, fr_lt0, fr_inj, l32_0, l32_1, l32_2, l32_3, l32_4, l32_5, l32_6, l32_7, l32_8, l32_9, l32_10, l32_11, l32_12, l32_13, l32_14, l32_15, l32_16, l32_20, l32_24, l32_25, l32_26, l32_31, l32_32, l32_34, l32_35, l32_39, l32_40, l32_44, l32_45, l32_46, l32_47, l32_48, l32_49, l32_57, l32_58, l32_59, l32_63, l32_64, l32_85, l32_90, l32_97, l32_99, l32_100, l32_110, l32_112, l32_122, l32_124, l32_125, l32_255, l32_680, l32_699, l32_700, l32_999, l32_2500, l32_99999, l32_100000, l32_1000000, if_true, if_false, ite_true, ite_false, ce_nm, Option.bind, if_pos, if_neg]; exact z) (Ev.some ⟨f2, b37, b93, tkm⟩)
  · have ci : ce_in (nI i) 12 = true := ni_in (by omega) (by omega)
    have en : (nI i).toNatClampNeg = i := ni_cl (by omega)
    have g := ok.pre i hi
    obtain ⟨l4, lb, hc⟩ := ok.2.1 i (by omega)
    obtain ⟨m86, m87⟩ := lm i (by omega)
    have gm := g.mid hc
    refine Ev.neg (by rw [e29]; simp (disch := omega) only [up_s, up_k, up_j, mm_neg, mm_def, ni_lt, ni_le, ni_eq, ni_mm, mm_ni, ni_lt_mm, ni_le_mm, mm_lt_ni, mm_le_ni, mm_lt_mm, mm_le_mm, ni_cl, ni_in, nI_add, ni_mul, ni_div, ni_rem, ni_rem2, fr_sub, fr_mm, fr_ge0, fr_lt0, fr_inj, l32_0, l32_1, l32_2, l32_3, l32_4, l32_5, l32_6, l32_7, l32_8, l32_9, l32_10, l32_11, l32_12, l32_13, l32_14, l32_15, l32_16, l32_20, l32_24, l32_25, l32_26, l32_31, l32_32, l32_34, l32_35, l32_39, l32_40, l32_44, l32_45, l32_46, l32_47, l32_48, l32_49, l32_57, l32_58, l32_59, l32_63, l32_64, l32_85, l32_90, l32_97, l32_99, l32_100, l32_110, l32_112, l32_122, l32_124, l32_125, l32_255, l32_680, l32_699, l32_700, l32_999, l32_2500, l32_99999, l32_100000, l32_1000000, if_true, if_false, ite_true, ite_false, ce_nm, Option.bind, if_pos, if_neg]; exact z) (Ev.grd ci (Ev.nm (Ev.grd ci (Ev.nm (Ev.grd ci (Ev.nm (Ev.grd ci ?_)))))))
    rw [en]
    obtain ⟨h3, eh3⟩ : ∃ h3, h3 = hp_up (hp_up (hp_up h2 90 i (-1 : Int32)) 91 i (-1 : Int32)) 92 i (-1 : Int32) := ⟨_, rfl⟩
    rw [← eh3]
    have f3 : FrB h h3 := by rw [eh3]; exact ((f2.trans (FrB.up (by omega))).trans (FrB.up (by omega))).trans (FrB.up (by omega))
    have k3 : ∀ q, q ≠ 90 → q ≠ 91 → q ≠ 92 → h3 q = h2 q := fun q a b d => by rw [eh3, up_kk _ _ _ _ _ d, up_kk _ _ _ _ _ b, up_kk _ _ _ _ _ a]
    have v0 : h3 90 i = mm ∧ h3 91 i = mm ∧ h3 92 i = mm := by
      rw [eh3]
      refine ⟨?_, ?_, ?_⟩
      · rw [up_k _ _ _ _ _ _ (by omega), up_k _ _ _ _ _ _ (by omega), up_s]; rfl
      · rw [up_k _ _ _ _ _ _ (by omega), up_s]; rfl
      · rw [up_s]; rfl
    have v1 : ∀ j, j ≠ i → h3 90 j = h2 90 j ∧ h3 91 j = h2 91 j ∧ h3 92 j = h2 92 j := fun j hj => by
      rw [eh3]
      refine ⟨?_, ?_, ?_⟩
      · rw [up_k _ _ _ _ _ _ (by omega), up_k _ _ _ _ _ _ (by omega), up_j _ _ _ _ _ hj]
      · rw [up_k _ _ _ _ _ _ (by omega), up_j _ _ _ _ _ hj, up_k _ _ _ _ _ _ (by omega)]
      · rw [up_j _ _ _ _ _ hj, up_k _ _ _ _ _ _ (by omega), up_k _ _ _ _ _ _ (by omega)]
    clear eh3
    have i86 : h3 86 i - (1 : Int32) = fr (len i) := by rw [f3.1 86 (by omega) (by omega) (by omega) (by omega) (by omega), m86, l32_1, fr_sub]
    rw [i86]
    refine Ev.bind (P := fun h4 => FrB h h4 ∧ gM len L i 0 (pkA i L (len i) (inA i (bld len L i))) ∧ Bu h4 (i + 1) (pkA i L (len i) (inA i (bld len L i)))) ?_ (fun h4 q4 => ?_)
    · refine Ev.it (I := fun c st => c ≤ len i ∧ st.1 = fr (len i - c) ∧ FrB h st.2 ∧ ∃ a, pkA i L (len i) (inA i (bld len L i)) = pkA i L (len i - c) a ∧ gM len L i (len i - c) a ∧ Bu st.2 (i + 1) a) _ (len i) ?_ F 0 _ (by omega) (by omega) ⟨by omega, rfl, f3, inA i (bld len L i), rfl, gm, ?_, fun j hj => ?_, fun j hj => ?_⟩
      rotate_left
      · dsimp only [inA]; rw [k3 68 (by omega) (by omega) (by omega)]; exact b37
      · dsimp only [inA] at hj ⊢; rw [k3 93 (by omega) (by omega) (by omega)]; exact b93 j hj
      · dsimp only [inA]
        by_cases y : j = i
        · rw [y, un_s, un_s, un_s]; exact v0
        · obtain ⟨w1, w2, w3⟩ := v1 j y
          rw [un_n y, un_n y, un_n y, w1, w2, w3]; exact tkm j (by omega)
      rintro c ⟨x2, h4⟩ hc' hI
      obtain ⟨hcl, rfl, f4, a, pe, gs, u37, u93, ut⟩ : c ≤ len i ∧ x2 = fr (len i - c) ∧ FrB h h4 ∧ ∃ a, pkA i L (len i) (inA i (bld len L i)) = pkA i L (len i - c) a ∧ gM len L i (len i - c) a ∧ Bu h4 (i + 1) a := hI
      show Ev (f12_builds_b45 F (nI i) (fr (len i - c)) h4) _
      unfold f12_builds_b45
      by_cases zc : len i - c = 0
      · rw [zc] at pe gs
        have pe' : pkA i L (len i) (inA i (bld len L i)) = a := pe
        refine Ev.pos (by rw [zc]; decide) (Ev.some ?_)
        rw [pe']
        exact ⟨f4, gs, u37, u93, ut⟩
      · obtain ⟨p, hp⟩ : ∃ p, len i - c = p + 1 := ⟨len i - c - 1, by omega⟩
        have hp1 : len i - (c + 1) = p := by omega
        rw [hp] at pe gs ⊢
        rw [fr_s]
        have i48 : ((4 : Int32) * nI i) + nI p = nI (4 * i + p) := by rw [show (4 : Int32) = nI 4 from rfl, ni_mul, nI_add]
        have c48 : ce_in (nI (4 * i + p)) 48 = true := ni_in (by omega) (by omega)
        have e48 : (nI (4 * i + p)).toNatClampNeg = 4 * i + p := ni_cl (by omega)
        have lv : ∀ h5, FrB h h5 → h5 87 (4 * i + p) = nI (L (4 * i + p)) := fun h5 f5 => by rw [f5.1 87 (by omega) (by omega) (by omega) (by omega) (by omega)]; exact m87 p (by omega)
        have l2 := lb p (by omega)
        obtain ⟨gn, gp⟩ := gs.step
        refine Ev.neg (by simp (disch := omega) only [up_s, up_k, up_j, mm_neg, mm_def, ni_lt, ni_le, ni_eq, ni_mm, mm_ni, ni_lt_mm, ni_le_mm, mm_lt_ni, mm_le_ni, mm_lt_mm, mm_le_mm, ni_cl, ni_in, nI_add, ni_mul, ni_div, ni_rem, ni_rem2, fr_sub, fr_mm, fr_ge0, fr_lt0, fr_inj, l32_0, l32_1, l32_2, l32_3, l32_4, l32_5, l32_6, l32_7, l32_8, l32_9, l32_10, l32_11, l32_12, l32_13, l32_14, l32_15, l32_16, l32_20, l32_24, l32_25, l32_26, l32_31, l32_32, l32_34, l32_35, l32_39, l32_40, l32_44, l32_45, l32_46, l32_47, l32_48, l32_49, l32_57, l32_58, l32_59, l32_63, l32_64, l32_85, l32_90, l32_97, l32_99, l32_100, l32_110, l32_112, l32_122, l32_124, l32_125, l32_255, l32_680, l32_699, l32_700, l32_999, l32_2500, l32_99999, l32_100000, l32_1000000, if_true, if_false, ite_true, ite_false, ce_nm, Option.bind, if_pos, if_neg]; omega) ?_
        rw [i48, e48, ni_am, en]
        refine Ev.grd c48 ?_
        by_cases c2 : L (4 * i + p) = 2
        · have a0 := gp c2
          have a1 := gs.1
          obtain ⟨os, -⟩ := gs.2.1 (a.1 - 1) (by omega)
          have se : stA i p (L (4 * i + p)) a = (a.1 - 1, a.2.1, un a.2.2.1 (a.2.1 (a.1 - 1)) (i + 1), a.2.2.2.1, un a.2.2.2.2 (a.2.1 (a.1 - 1)) (p + 1)) := by unfold stA; rw [if_pos c2]
          refine Ev.pos (by rw [lv h4 f4, c2]; rfl) (Ev.nm ?_)
          rw [u37, l32_1, ni_sub (by omega)]
          obtain ⟨h5, eh5⟩ : ∃ h5, h5 = hp_up h4 68 37 (nI (a.1 - 1)) := ⟨_, rfl⟩
          rw [← eh5]
          have s5 : h5 68 37 = nI (a.1 - 1) := by rw [eh5, up_s]
          have c5 : (h5 68 37).toNatClampNeg = a.1 - 1 := by rw [s5, ni_cl (by omega)]
          have o5 : h5 93 (a.1 - 1) = nI (a.2.1 (a.1 - 1)) := by rw [eh5, up_k _ _ _ _ _ _ (by omega)]; exact u93 _ (by omega)
          refine Ev.grd (by rw [s5]; exact ni_in (by omega) (by omega)) ?_
          rw [c5, o5, ni_cl (by omega)]
          refine Ev.grd (ni_in (by omega) (by omega)) (Ev.nm ?_)
          obtain ⟨h6, eh6⟩ : ∃ h6, h6 = hp_up h5 90 (a.2.1 (a.1 - 1)) (nI i) := ⟨_, rfl⟩
          rw [← eh6]
          have s6 : h6 68 37 = nI (a.1 - 1) := by rw [eh6, up_k _ _ _ _ _ _ (by omega)]; exact s5
          have c6 : (h6 68 37).toNatClampNeg = a.1 - 1 := by rw [s6, ni_cl (by omega)]
          have o6 : h6 93 (a.1 - 1) = nI (a.2.1 (a.1 - 1)) := by rw [eh6, up_k _ _ _ _ _ _ (by omega)]; exact o5
          refine Ev.grd (by rw [s6]; exact ni_in (by omega) (by omega)) ?_
          rw [c6, o6, ni_cl (by omega)]
          refine Ev.grd (ni_in (by omega) (by omega)) (Ev.nm ?_)
          obtain ⟨h7, eh7⟩ : ∃ h7, h7 = hp_up h6 92 (a.2.1 (a.1 - 1)) (nI p) := ⟨_, rfl⟩
          rw [← eh7]
          have f7 : FrB h h7 := by
            rw [eh7, eh6, eh5]
            exact ((f4.trans (FrB.up (by omega))).trans (FrB.up (by omega))).trans (FrB.up (by omega))
          refine Ev.grd c48 (Ev.neg (by rw [lv h7 f7, c2]; decide) (Ev.grd ci (Ev.grd ci (Ev.nm (Ev.some ⟨by omega, by omega, by rw [hp1], ?_, stA i p (L (4 * i + p)) a, by rw [hp1]; exact pe, by rw [hp1]; exact gn, ?_, fun j hj => ?_, fun j hj => ?_⟩)))))
          · dsimp only; rw [up_id]; exact f7
          · dsimp only; rw [up_id, se, eh7, up_k _ _ _ _ _ _ (by omega)]; exact s6
          · rw [se] at hj ⊢
            dsimp only at hj ⊢
            rw [up_id, eh7, up_k _ _ _ _ _ _ (by omega), eh6, up_k _ _ _ _ _ _ (by omega), eh5, up_k _ _ _ _ _ _ (by omega)]; exact u93 j (by omega)
          · rw [se]
            dsimp only
            rw [up_id]
            obtain ⟨q1, q2, q3⟩ := ut j hj
            refine ⟨?_, ?_, ?_⟩
            · rw [eh7, up_k _ _ _ _ _ _ (by omega), eh6]
              by_cases y : j = a.2.1 (a.1 - 1)
              · rw [y, up_s, un_s, fr_s]
              · rw [up_j _ _ _ _ _ y, un_n y, eh5, up_k _ _ _ _ _ _ (by omega)]; exact q1
            · rw [eh7, up_k _ _ _ _ _ _ (by omega), eh6, up_k _ _ _ _ _ _ (by omega), eh5, up_k _ _ _ _ _ _ (by omega)]; exact q2
            · rw [eh7]
              by_cases y : j = a.2.1 (a.1 - 1)
              · rw [y, up_s, un_s, fr_s]
              · rw [up_j _ _ _ _ _ y, un_n y, eh6, up_k _ _ _ _ _ _ (by omega), eh5, up_k _ _ _ _ _ _ (by omega)]; exact q3
        · refine Ev.neg (by rw [lv h4 f4, l32_2, ni_eq (by omega) (by omega)]; exact c2) (Ev.grd c48 ?_)
          by_cases c1 : L (4 * i + p) = 1
          · have se : stA i p (L (4 * i + p)) a = (a.1, a.2.1, a.2.2.1, un a.2.2.2.1 i (p + 1), a.2.2.2.2) := by unfold stA; rw [if_neg c2, if_pos c1]
            refine Ev.pos (by rw [lv h4 f4, c1]; rfl) (Ev.grd ci (Ev.nm (Ev.some ⟨by omega, by omega, by rw [hp1], f4.trans (FrB.up (by omega)), stA i p (L (4 * i + p)) a, by rw [hp1]; exact pe, by rw [hp1]; exact gn, ?_, fun j hj => ?_, fun j hj => ?_⟩)))
            · dsimp only; rw [se, up_k _ _ _ _ _ _ (by omega)]; exact u37
            · rw [se] at hj ⊢
              dsimp only at hj ⊢
              rw [up_k _ _ _ _ _ _ (by omega)]; exact u93 j hj
            · rw [se]
              dsimp only
              obtain ⟨q1, q2, q3⟩ := ut j hj
              refine ⟨?_, ?_, ?_⟩
              · rw [up_k _ _ _ _ _ _ (by omega)]; exact q1
              · by_cases y : j = i
                · rw [y, up_s, un_s, fr_s]
                · rw [up_j _ _ _ _ _ y, un_n y]; exact q2
              · rw [up_k _ _ _ _ _ _ (by omega)]; exact q3
          · have se : stA i p (L (4 * i + p)) a = a := by unfold stA; rw [if_neg c2, if_neg c1]
            refine Ev.neg (by rw [lv h4 f4, l32_1, ni_eq (by omega) (by omega)]; exact c1) (Ev.grd ci (Ev.grd ci (Ev.nm (Ev.some ⟨by omega, by omega, by rw [hp1], ?_, stA i p (L (4 * i + p)) a, by rw [hp1]; exact pe, by rw [hp1]; exact gn, ?_, fun j hj => ?_, fun j hj => ?_⟩))))
            · dsimp only; rw [up_id]; exact f4
            · dsimp only; rw [up_id, se]; exact u37
            · rw [se] at hj ⊢
              dsimp only
              rw [up_id]; exact u93 j hj
            · rw [se]
              dsimp only
              rw [up_id]; exact ut j hj
    · obtain ⟨f4, g0, u37, u93, ut⟩ := q4
      have eA : bld len L (i + 1) = puA i (pkA i L (len i) (inA i (bld len L i))) := rfl
      generalize pkA i L (len i) (inA i (bld len L i)) = a at g0 u37 u93 ut eA
      have a1 := g0.1
      refine Ev.grd (by rw [u37]; exact ni_in (by omega) (by omega)) (Ev.nm (Ev.nm (Ev.some ⟨by omega, by omega, rfl, (f4.trans (FrB.up (by omega))).trans (FrB.up (by omega)), ?_, fun j hj => ?_, fun j hj => ?_⟩)))
      · dsimp only
        rw [up_s, up_k _ _ _ _ _ _ (by omega), u37, nI_1, eA]
        rfl
      · rw [eA] at hj ⊢
        have hj : j < a.1 + 1 := hj
        dsimp only
        rw [up_k _ _ _ _ _ _ (by omega), u37, ni_cl (by omega)]
        show _ = nI (un a.2.1 a.1 i j)
        by_cases y : j = a.1
        · rw [y, up_s, un_s]
        · rw [up_j _ _ _ _ _ y, un_n y]; exact u93 j (by omega)
      · rw [eA]
        dsimp only
        rw [up_k _ _ _ _ _ _ (by omega), up_k _ _ _ _ _ _ (by omega), up_k _ _ _ _ _ _ (by omega), up_k _ _ _ _ _ _ (by omega), up_k _ _ _ _ _ _ (by omega), up_k _ _ _ _ _ _ (by omega)]
        exact ut j hj
