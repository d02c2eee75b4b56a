-- a new node's name, in both
noncomputable def isK (t : Nat → Nat) (x : Tok) : Bool := bo (isW t 0 x ∨ isW t 3 x ∨ isW t 4 x ∨ isW t 5 x ∨ isW t 6 x)
theorem x_reserved {T F : Nat} {t : Nat → Nat} {h : Hp} {x : Tok} (c : CP h T t x) (hF : 1000 ≤ F) : f8_isReserved F h = some (if isK t x = true then nI 1 else nI 0, h) := by
  refine Ev.eq ?_
  have n1 : ¬ (nI 1 : Int32) = 0 := by decide
  unfold f8_isReserved
  rw [x_cisWord c (by omega : 0 < 9) hF]
  refine ev_bs ?_
  dsimp only
  by_cases a : isW t 0 x
  · refine Ev.neg (by rw [bo_p a]; decide) (Ev.some ?_)
    rw [show isK t x = true from bo_p (Or.inl a)]; rfl
  · refine Ev.pos (by rw [bo_f a]; rfl) ?_
    rw [x_cisWord c (by omega : 3 < 9) hF]
    refine ev_bs ?_
    dsimp only
    by_cases b : isW t 3 x
    · refine Ev.neg (by rw [bo_p b]; decide) (Ev.some ?_)
      rw [show isK t x = true from bo_p (Or.inr (Or.inl b))]; rfl
    · refine Ev.pos (by rw [bo_f b]; rfl) ?_
      rw [x_cisWord c (by omega : 4 < 9) hF]
      refine ev_bs ?_
      dsimp only
      by_cases d : isW t 4 x
      · refine Ev.neg (by rw [bo_p d]; decide) (Ev.some ?_)
        rw [show isK t x = true from bo_p (Or.inr (Or.inr (Or.inl d)))]; rfl
      · refine Ev.pos (by rw [bo_f d]; rfl) ?_
        rw [x_cisWord c (by omega : 5 < 9) hF]
        refine ev_bs ?_
        dsimp only
        by_cases e : isW t 5 x
        · refine Ev.neg (by rw [bo_p e]; decide) (Ev.some ?_)
          rw [show isK t x = true from bo_p (Or.inr (Or.inr (Or.inr (Or.inl e))))]; rfl
        · refine Ev.pos (by rw [bo_f e]; rfl) ?_
          rw [x_cisWord c (by omega : 6 < 9) hF]
          refine ev_bs ?_
          dsimp only
          by_cases f : isW t 6 x
          · refine Ev.neg (by rw [bo_p f]; decide) (Ev.some ?_)
            rw [show isK t x = true from bo_p (Or.inr (Or.inr (Or.inr (Or.inr f))))]; rfl
          · refine Ev.pos (by rw [bo_f f]; rfl) (Ev.some ?_)
            rw [show isK t x = false from bo_f (by rintro (q | q | q | q | q) <;> contradiction)]; rfl
theorem x_kept {T F : Nat} {t : Nat → Nat} {h : Hp} {x : Tok} (c : RP h T t x) (hF : 1000 ≤ F) : f12_isKept F h = some (if isK t x = true then nI 1 else nI 0, h) := by
  refine Ev.eq ?_
  have n1 : ¬ (nI 1 : Int32) = 0 := by decide
  unfold f12_isKept
  rw [x_misWord c (by omega : 0 < 9) hF]
  refine ev_bs ?_
  dsimp only
  by_cases a : isW t 0 x
  · refine Ev.neg (by rw [bo_p a]; decide) (Ev.some ?_)
    rw [show isK t x = true from bo_p (Or.inl a)]; rfl
  · refine Ev.pos (by rw [bo_f a]; rfl) ?_
    rw [x_misWord c (by omega : 3 < 9) hF]
    refine ev_bs ?_
    dsimp only
    by_cases b : isW t 3 x
    · refine Ev.neg (by rw [bo_p b]; decide) (Ev.some ?_)
      rw [show isK t x = true from bo_p (Or.inr (Or.inl b))]; rfl
    · refine Ev.pos (by rw [bo_f b]; rfl) ?_
      rw [x_misWord c (by omega : 4 < 9) hF]
      refine ev_bs ?_
      dsimp only
      by_cases d : isW t 4 x
      · refine Ev.neg (by rw [bo_p d]; decide) (Ev.some ?_)
        rw [show isK t x = true from bo_p (Or.inr (Or.inr (Or.inl d)))]; rfl
      · refine Ev.pos (by rw [bo_f d]; rfl) ?_
        rw [x_misWord c (by omega : 5 < 9) hF]
        refine ev_bs ?_
        dsimp only
        by_cases e : isW t 5 x
        · refine Ev.neg (by rw [bo_p e]; decide) (Ev.some ?_)
          rw [show isK t x = true from bo_p (Or.inr (Or.inr (Or.inr (Or.inl e))))]; rfl
        · refine Ev.pos (by rw [bo_f e]; rfl) ?_
          rw [x_misWord c (by omega : 6 < 9) hF]
          refine ev_bs ?_
          dsimp only
          by_cases f : isW t 6 x
          · refine Ev.neg (by rw [bo_p f]; decide) (Ev.some ?_)
            rw [show isK t x = true from bo_p (Or.inr (Or.inr (Or.inr (Or.inr f))))]; rfl
          · refine Ev.pos (by rw [bo_f f]; rfl) (Ev.some ?_)
            rw [show isK t x = false from bo_f (by rintro (q | q | q | q | q) <;> contradiction)]; rfl
/-- a new name is taken -/
noncomputable def pM (t : Nat → Nat) (T n : Nat) (na : Nat → Nat × Nat) (x : Tok) : Rs Tok := if x.2.2 = 1 then (if 6 < x.2.1 - x.1 ∨ isK t x = true ∨ fi (nq t x na) n ≠ 0 then .inl (2, x.1) else .inr (tn t T x.2.1)) else .inl (1, x.1)
def aN (n : Nat) (na : Nat → Nat × Nat) (x : Tok) : Nat → Nat × Nat := fun v => if v = n then (x.1, x.2.1 - x.1) else na v
theorem y_newName {T kn F n : Nat} {t : Nat → Nat} {h : Hp} {x : Tok} {na : Nat → Nat × Nat} (c : CR h T t (.inr x)) (hkn : ce_isNet kn) (oa : okA T n na) (ca : CA h n na) (h3 : h kn 3 = nI n) (hn : n < 10) (hF : 1000 ≤ F) : Ev (f8_takeNewName F kn h) (fun h' => (∀ q, q ≠ 1 → q ≠ 5 → q ≠ 6 → h' q = h q) ∧ CR h' T t (pM t T n na x) ∧ ∀ y, pM t T n na x = .inr y → CA h' (n + 1) (aN n na x) ∧ okA T (n + 1) (aN n na x)) := by
  have bn := net_le hkn
  have c0 := c.1
  obtain ⟨tc, ⟨l1, l2, l3⟩, fine, ⟨o1, o2, o3, o4⟩⟩ := id c0
  have hT := tc.1
  have n1 : ¬ (nI 1 : Int32) = 0 := by decide
  have bad : ∀ k, (1 ≤ k ∧ k ≤ 4) → pM t T n na x = .inl (k, x.1) → Ev (Option.bind (f6_refuse F (nI k) h) (fun o49 => some o49)) (fun h' => (∀ q, q ≠ 1 → q ≠ 5 → q ≠ 6 → h' q = h q) ∧ CR h' T t (pM t T n na x) ∧ ∀ y, pM t T n na x = .inr y → CA h' (n + 1) (aN n na x) ∧ okA T (n + 1) (aN n na x)) := fun k hk e => Ev.bind (y_refuse (k := k) c0 hk) (fun h' q => Ev.some ⟨fun q' a _ _ => q.1 q' a, by rw [e]; exact q.2, fun y w => by rw [e] at w; cases w⟩)
  unfold f8_takeNewName
  by_cases k1 : x.2.2 = 1
  · have pe : pM t T n na x = if 6 < x.2.1 - x.1 ∨ isK t x = true ∨ fi (nq t x na) n ≠ 0 then .inl (2, x.1) else .inr (tn t T x.2.1) := by unfold pM; rw [if_pos k1]
    refine Ev.pos (by rw [l3, k1]; rfl) ?_
    by_cases long : 6 < x.2.1 - x.1
    · exact Ev.pos (by rw [l1, l2, ni_sub o1]; simp (disch := omega) only [up_s, up_k, up_j, mm_neg, mm_def, ni_lt, ni_le, ni_eq, ni_mm, mm_ni, ni_lt_mm, ni_le_mm, mm_lt_ni, mm_le_ni, mm_lt_mm, mm_le_mm, ni_cl, ni_in, nI_add, ni_mul, ni_div, ni_rem, ni_rem2, fr_sub, fr_mm, fr_ge0, fr_lt0, fr_inj, l32_0, l32_1, l32_2, l32_3, l32_4, l32_5, l32_6, l32_7, l32_8, l32_9, l32_10, l32_11, l32_12, l32_13, l32_14, l32_15, l32_16, l32_20, l32_24, l32_25, l32_26, l32_31, l32_32, l32_34, l32_35, l32_39, l32_40, l32_44, l32_45, l32_46, l32_47, l32_48, l32_49, l32_57, l32_58, l32_59, l32_63, l32_64, l32_85, l32_90, l32_97, l32_99, l32_100, l32_110, l32_112, l32_122, l32_124, l32_125, l32_255, l32_680, l32_699, l32_700, l32_999, l32_2500, l32_99999, l32_100000, l32_1000000, if_true, if_false, ite_true, ite_false, ce_nm, Option.bind, if_pos, if_neg]; exact long) (bad 2 (by omega) (by rw [pe, if_pos (Or.inl long)]))
    · refine Ev.neg (by rw [l1, l2, ni_sub o1]; simp (disch := omega) only [up_s, up_k, up_j, mm_neg, mm_def, ni_lt, ni_le, ni_eq, ni_mm, mm_ni, ni_lt_mm, ni_le_mm, mm_lt_ni, mm_le_ni, mm_lt_mm, mm_le_mm, ni_cl, ni_in, nI_add, ni_mul, ni_div, ni_rem, ni_rem2, fr_sub, fr_mm, fr_ge0, fr_lt0, fr_inj, l32_0, l32_1, l32_2, l32_3, l32_4, l32_5, l32_6, l32_7, l32_8, l32_9, l32_10, l32_11, l32_12, l32_13, l32_14, l32_15, l32_16, l32_20, l32_24, l32_25, l32_26, l32_31, l32_32, l32_34, l32_35, l32_39, l32_40, l32_44, l32_45, l32_46, l32_47, l32_48, l32_49, l32_57, l32_58, l32_59, l32_63, l32_64, l32_85, l32_90, l32_97, l32_99, l32_100, l32_110, l32_112, l32_122, l32_124, l32_125, l32_255, l32_680, l32_699, l32_700, l32_999, l32_2500, l32_99999, l32_100000, l32_1000000, if_true, if_false, ite_true, ite_false, ce_nm, Option.bind, if_pos, if_neg]; exact long) ?_
      rw [x_reserved c0 hF]
      refine ev_bs ?_
      dsimp only
      by_cases kp : isK t x = true
      · exact Ev.neg (by rw [if_pos kp]; decide) (bad 2 (by omega) (by rw [pe, if_pos (Or.inr (Or.inl kp))]))
      · refine Ev.pos (by rw [if_neg kp]; rfl) ?_
        rw [x_cnode c0 oa ca h3 hF]
        refine ev_bs ?_
        dsimp only
        have fl : fi (nq t x na) n ≤ n := by
          rcases fi_spec (nq t x na) n with ⟨a, b⟩ | ⟨a, b, d, e⟩ <;> omega
        by_cases fz : fi (nq t x na) n = 0
        · rw [if_neg (fun q => by
            rcases q with q | q | q
            · exact long q
            · exact kp q
            · exact q fz)] at pe
          refine Ev.pos (by rw [fz]; rfl) (Ev.grd (by rw [h3]; exact ni_in (by omega) hn) (Ev.nm ?_))
          rw [h3, ni_cl (by omega), l1]
          have r3 : hp_up h 5 n (nI x.1) kn 3 = nI n := by rw [up_k _ _ _ _ _ _ (by omega)]; exact h3
          refine Ev.grd (by rw [r3]; exact ni_in (by omega) hn) (Ev.nm ?_)
          rw [r3, ni_cl (by omega), l2, ni_sub o1]
          obtain ⟨h1, eh1⟩ : ∃ h1, h1 = hp_up (hp_up h 5 n (nI x.1)) 6 n (nI (x.2.1 - x.1)) := ⟨_, rfl⟩
          rw [← eh1]
          have k0 : ∀ q, q ≠ 5 → q ≠ 6 → h1 q = h q := fun q a b => by rw [eh1, up_kk _ _ _ _ _ b, up_kk _ _ _ _ _ a]
          have c1 : CR h1 T t (.inr x) := CR.eqv c (k0 1 (by omega) (by omega)) (k0 2 (by omega) (by omega)) (k0 3 (by omega) (by omega))
          refine Ev.bind (y_adv c1.1 c1.2 hF) (fun h' q => Ev.some ⟨fun q' a b d => by rw [q.1 q' a]; exact k0 q' b d, by rw [pe]; exact q.2, fun y w => ⟨fun v hv => ?_, by omega, fun v hv => ?_⟩⟩)
          · rw [q.1 5 (by omega), q.1 6 (by omega), eh1, up_k _ _ _ _ _ _ (by omega)]
            unfold aN
            by_cases vn : v = n
            · rw [vn, up_s, up_s, if_pos rfl]; exact ⟨rfl, rfl⟩
            · rw [up_j _ _ _ _ _ vn, up_j _ _ _ _ _ vn, up_k _ _ _ _ _ _ (by omega), if_neg vn]
              exact ca v (by omega)
          · unfold aN
            by_cases vn : v = n
            · rw [if_pos vn]
              exact ⟨by dsimp only; omega, by dsimp only; omega⟩
            · rw [if_neg vn]; exact oa.2 v (by omega)
        · exact Ev.neg (by simp (disch := omega) only [up_s, up_k, up_j, mm_neg, mm_def, ni_lt, ni_le, ni_eq, ni_mm, mm_ni, ni_lt_mm, ni_le_mm, mm_lt_ni, mm_le_ni, mm_lt_mm, mm_le_mm, ni_cl, ni_in, nI_add, ni_mul, ni_div, ni_rem, ni_rem2, fr_sub, fr_mm, fr_ge0, fr_lt0, fr_inj, l32_0, l32_1, l32_2, l32_3, l32_4, l32_5, l32_6, l32_7, l32_8, l32_9, l32_10, l32_11, l32_12, l32_13, l32_14, l32_15, l32_16, l32_20, l32_24, l32_25, l32_26, l32_31, l32_32, l32_34, l32_35, l32_39, l32_40, l32_44, l32_45, l32_46, l32_47, l32_48, l32_49, l32_57, l32_58, l32_59, l32_63, l32_64, l32_85, l32_90, l32_97, l32_99, l32_100, l32_110, l32_112, l32_122, l32_124, l32_125, l32_255, l32_680, l32_699, l32_700, l32_999, l32_2500, l32_99999, l32_100000, l32_1000000, if_true, if_false, ite_true, ite_false, ce_nm, Option.bind, if_pos, if_neg]; exact fz) (bad 2 (by omega) (by rw [pe, if_pos (Or.inr (Or.inr fz))]))
  · exact Ev.neg (by rw [l3, l32_1, ni_eq (by omega) (by omega)]; exact k1) (bad 1 (by omega) (by unfold pM; rw [if_neg k1]))
