-- a new node's name: the reference
def jG (F : Nat) (x1 : Int32) (o141 : Hp) : Option Hp :=
  Option.bind (f12_named F 7 (1 : Int32) (4 : Int32) o141) (fun o156 =>
      if ce_in ((5 : Int32) + x1) 125 = true then
        ce_nm (hp_up o156.2 69 (((5 : Int32) + x1)).toNatClampNeg o156.1) (fun h_159 =>
          if (h_159 68 11) = 0 then
            Option.bind (f12_isWord F 5 h_159) (fun o170 =>
              if o170.1 = 0 then
                f12_readsNode_j190 F x1 o170.2
              else
                if ce_in ((15 : Int32) + x1) 125 = true then
                  ce_nm (hp_up o170.2 69 (((15 : Int32) + x1)).toNatClampNeg (1 : Int32)) (fun h_185 =>
                    Option.bind (f12_next F  h_185) (fun o187 =>
                      f12_readsNode_j190 F x1 o187))
                else none)
          else
            f12_readsNode_j190 F x1 h_159)
      else none)
theorem j141_eq (F : Nat) (x1 s0 : Int32) (h : Hp) : f12_readsNode_j141 F x1 s0 h = Option.bind (f12_passes F s0 h) (jG F x1) := rfl
def FrM (h h' : Hp) : Prop := (∀ q, q ≠ 68 → q ≠ 73 → q ≠ 74 → h' q = h q) ∧ ∀ j, (j < 5 ∨ 11 < j) → h' 68 j = h 68 j
theorem FrS.fm {h h' : Hp} (f : FrS h h') : FrM h h' := ⟨fun q a _ _ => f.1 q a, f.2⟩
theorem FrM.trans {h1 h2 h3 : Hp} (a : FrM h1 h2) (b : FrM h2 h3) : FrM h1 h3 := ⟨fun q n1 n2 n3 => (b.1 q n1 n2 n3).trans (a.1 q n1 n2 n3), fun j hj => (b.2 j hj).trans (a.2 j hj)⟩
theorem z_newName {T F n : Nat} {t : Nat → Nat} {h : Hp} {x : Tok} {na : Nat → Nat × Nat} {Q : Hp → Prop} (c : MR h T t (.inr x)) (oa : okA T n na) (ma : MA h n na) (h2 : h 69 2 = nI n) (hn : n < 10) (hF : 1000 ≤ F)
    (k : ∀ h', FrM h h' → MR h' T t (pM t T n na x) → (∀ y, pM t T n na x = .inr y → MA h' (n + 1) (aN n na x)) → Ev (jG F (nI n) h') Q) : Ev (f12_readsNode_j38 F (nI n) h) Q := by
  have c0 := c.1
  obtain ⟨tm, ⟨l1, l2, l3, l4⟩, fine, ⟨o1, o2, o3, o4⟩⟩ := id c0
  have hT := tm.1
  -- with a fault 2
  have bad : pM t T n na x = .inl (2, x.1) → Ev (f12_readsNode_j83 F (nI n) h) Q := fun e => by
    unfold f12_readsNode_j83
    refine Ev.bind (z_faults (k := 2) c) (fun h1 q1 => ?_)
    have b1 : ¬ h1 68 11 = 0 := MR.bad (f := (2, x.1)) q1.2
    unfold f12_readsNode_j88
    refine Ev.neg b1 ?_
    unfold f12_readsNode_j120
    refine Ev.neg b1 ?_
    unfold f12_readsNode_j136
    rw [j141_eq]
    refine Ev.bind (z_pass1 q1.2 hF) (fun h3 q3 => k h3 (q1.1.fm.trans q3.1.fm) (by rw [e]; exact q3.2) (fun y w => by rw [e] at w; cases w))
  -- the name is written
  have go : (x.2.2 = 1 → pM t T n na x = .inr (tn t T x.2.1)) → (x.2.2 ≠ 1 → pM t T n na x = .inl (1, x.1)) → Ev (f12_readsNode_j88 F (nI n) h) Q := fun g1 g2 => by
    unfold f12_readsNode_j88
    refine Ev.pos c.good (Ev.grd (ni_in (by omega) hn) (Ev.nm (Ev.grd (ni_in (by omega) hn) (Ev.nm ?_))))
    have r7 : hp_up h 73 (nI n).toNatClampNeg (h 68 8) 68 7 = nI x.2.1 := by rw [up_k _ _ _ _ _ _ (by omega)]; exact l2
    have r8 : hp_up h 73 (nI n).toNatClampNeg (h 68 8) 68 8 = nI x.1 := by rw [up_k _ _ _ _ _ _ (by omega)]; exact l1
    rw [r7, r8, ni_sub o1, l1, ni_cl (by omega)]
    obtain ⟨h1, eh1⟩ : ∃ h1, h1 = hp_up (hp_up h 73 n (nI x.1)) 74 n (nI (x.2.1 - x.1)) := ⟨_, rfl⟩
    rw [← eh1]
    have k0 : ∀ q, q ≠ 73 → q ≠ 74 → h1 q = h q := fun q a b => by rw [eh1, up_kk _ _ _ _ _ b, up_kk _ _ _ _ _ a]
    have f1 : FrM h h1 := ⟨fun q _ a b => k0 q a b, fun j _ => by rw [k0 68 (by omega) (by omega)]⟩
    have c1 : MR h1 T t (.inr x) := c.eqv (k0 68 (by omega) (by omega)) (k0 72 (by omega) (by omega))
    have nm : ∀ h3, FrS h1 h3 → MA h3 (n + 1) (aN n na x) := fun h3 q v hv => by
      rw [q.1 73 (by omega), q.1 74 (by omega), eh1, up_k _ _ _ _ _ _ (by omega)]
      unfold aN
      by_cases vn : v = n
      · rw [vn, up_s, up_s, if_pos rfl]; exact ⟨rfl, rfl⟩
      · rw [up_j _ _ _ _ _ vn, up_j _ _ _ _ _ vn, up_k _ _ _ _ _ _ (by omega), if_neg vn]
        exact ma v (by omega)
    unfold f12_readsNode_j120
    refine Ev.pos c1.good ?_
    by_cases k1 : x.2.2 = 1
    · refine Ev.pos (by rw [k0 68 (by omega) (by omega), l3, k1]; rfl) ?_
      unfold f12_readsNode_j136
      rw [j141_eq]
      exact Ev.bind (z_pass1 c1 hF) (fun h3 q3 => k h3 (f1.trans q3.1.fm) (by rw [g1 k1]; exact q3.2) (fun y _ => nm h3 q3.1))
    · refine Ev.neg (by rw [k0 68 (by omega) (by omega), l3, l32_1, ni_eq (by omega) (by omega)]; exact k1) ?_
      rw [j141_eq]
      exact Ev.bind (z_pass0 c1 hF) (fun h3 q3 => k h3 (f1.trans q3.1.fm) (by rw [g2 k1]; exact q3.2) (fun y _ => nm h3 q3.1))
  unfold f12_readsNode_j38
  refine Ev.pos c.good ?_
  by_cases k1 : x.2.2 = 1
  · have pe : pM t T n na x = if 6 < x.2.1 - x.1 ∨ isK t x = true ∨ fi (nq t x na) n ≠ 0 then .inl (2, x.1) else .inr (tn t T x.2.1) := by unfold pM; rw [if_pos k1]
    refine Ev.pos (by rw [l3, k1]; rfl) ?_
    by_cases long : 6 < x.2.1 - x.1
    · exact Ev.pos (by rw [l1, l2, ni_sub o1]; simp (disch := omega) only [up_s, up_k, up_j, mm_neg, mm_def, ni_lt, ni_le, ni_eq, ni_mm, mm_ni, ni_lt_mm, ni_le_mm, mm_lt_ni, mm_le_ni, mm_lt_mm, mm_le_mm, ni_cl, ni_in, nI_add, ni_mul, ni_div, ni_rem, ni_rem2, fr_sub, fr_mm, fr_ge0, fr_lt0, fr_inj, l32_0, l32_1, l32_2, l32_3, l32_4, l32_5, l32_6, l32_7, l32_8, l32_9, l32_10, l32_11, l32_12, l32_13, l32_14, l32_15, l32_16, l32_20, l32_24, l32_25, l32_26, l32_31, l32_32, l32_34, l32_35, l32_39, l32_40, l32_44, l32_45, l32_46, l32_47, l32_48, l32_49, l32_57, l32_58, l32_59, l32_63, l32_64, l32_85, l32_90, l32_97, l32_99, l32_100, l32_110, l32_112, l32_122, l32_124, l32_125, l32_255, l32_680, l32_699, l32_700, l32_999, l32_2500, l32_99999, l32_100000, l32_1000000, if_true, if_false, ite_true, ite_false, ce_nm, Option.bind, if_pos, if_neg]; exact long) (bad (by rw [pe, if_pos (Or.inl long)]))
    · refine Ev.neg (by rw [l1, l2, ni_sub o1]; simp (disch := omega) only [up_s, up_k, up_j, mm_neg, mm_def, ni_lt, ni_le, ni_eq, ni_mm, mm_ni, ni_lt_mm, ni_le_mm, mm_lt_ni, mm_le_ni, mm_lt_mm, mm_le_mm, ni_cl, ni_in, nI_add, ni_mul, ni_div, ni_rem, ni_rem2, fr_sub, fr_mm, fr_ge0, fr_lt0, fr_inj, l32_0, l32_1, l32_2, l32_3, l32_4, l32_5, l32_6, l32_7, l32_8, l32_9, l32_10, l32_11, l32_12, l32_13, l32_14, l32_15, l32_16, l32_20, l32_24, l32_25, l32_26, l32_31, l32_32, l32_34, l32_35, l32_39, l32_40, l32_44, l32_45, l32_46, l32_47, l32_48, l32_49, l32_57, l32_58, l32_59, l32_63, l32_64, l32_85, l32_90, l32_97, l32_99, l32_100, l32_110, l32_112, l32_122, l32_124, l32_125, l32_255, l32_680, l32_699, l32_700, l32_999, l32_2500, l32_99999, l32_100000, l32_1000000, if_true, if_false, ite_true, ite_false, ce_nm, Option.bind, if_pos, if_neg]; exact long) ?_
      rw [x_kept c0 hF]
      refine ev_bs ?_
      dsimp only
      by_cases kp : isK t x = true
      · exact Ev.neg (by rw [if_pos kp]; decide) (bad (by rw [pe, if_pos (Or.inr (Or.inl kp))]))
      · refine Ev.pos (by rw [if_neg kp]; rfl) ?_
        rw [x_mnode c0 oa ma h2 hF]
        refine ev_bs ?_
        dsimp only
        have fl : fi (nq t x na) n ≤ n := by
          rcases fi_spec (nq t x na) n with ⟨a, b⟩ | ⟨a, b, d, e⟩ <;> omega
        by_cases fz : fi (nq t x na) n = 0
        · refine Ev.pos (by rw [fz]; rfl) (go (fun _ => ?_) (fun q => absurd k1 q))
          rw [pe, if_neg (fun q => by
            rcases q with q | q | q
            · exact long q
            · exact kp q
            · exact q fz)]
        · exact Ev.neg (by simp (disch := omega) only [up_s, up_k, up_j, mm_neg, mm_def, ni_lt, ni_le, ni_eq, ni_mm, mm_ni, ni_lt_mm, ni_le_mm, mm_lt_ni, mm_le_ni, mm_lt_mm, mm_le_mm, ni_cl, ni_in, nI_add, ni_mul, ni_div, ni_rem, ni_rem2, fr_sub, fr_mm, fr_ge0, fr_lt0, fr_inj, l32_0, l32_1, l32_2, l32_3, l32_4, l32_5, l32_6, l32_7, l32_8, l32_9, l32_10, l32_11, l32_12, l32_13, l32_14, l32_15, l32_16, l32_20, l32_24, l32_25, l32_26, l32_31, l32_32, l32_34, l32_35, l32_39, l32_40, l32_44, l32_45, l32_46, l32_47, l32_48, l32_49, l32_57, l32_58, l32_59, l32_63, l32_64, l32_85, l32_90, l32_97, l32_99, l32_100, l32_110, l32_112, l32_122, l32_124, l32_125, l32_255, l32_680, l32_699, l32_700, l32_999, l32_2500, l32_99999, l32_100000, l32_1000000, if_true, if_false, ite_true, ite_false, ce_nm, Option.bind, if_pos, if_neg]; exact fz) (bad (by rw [pe, if_pos (Or.inr (Or.inr fz))]))
  · exact Ev.neg (by rw [l3, l32_1, ni_eq (by omega) (by omega)]; exact k1) (go (fun q => absurd q k1) (fun _ => by unfold pM; rw [if_neg k1]))
