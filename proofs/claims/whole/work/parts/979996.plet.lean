-- packets: letters of a token, in both
noncomputable def lc (t : Nat → Nat) (x : Tok) (c : Nat) : Nat := ct (fun i => ls (t (x.1 + i)) == c) (x.2.1 - x.1)
noncomputable def isPk (t : Nat → Nat) (x : Tok) : Prop := x.2.2 = 1 ∧ x.2.1 - x.1 ≤ 4 ∧ (∀ i, i < x.2.1 - x.1 → ls (t (x.1 + i)) ≠ 0) ∧ lc t x 2 ≤ 1
theorem lc_le (t : Nat → Nat) (x : Tok) (c : Nat) : lc t x c ≤ x.2.1 - x.1 := ct_le _ _
theorem lc_sum {g : Nat → Nat} (hg : ∀ i, g i ≤ 3) : ∀ n, (ct (fun i => g i == 1) n + ct (fun i => g i == 2) n + ct (fun i => g i == 3) n ≤ n) ∧ ((ct (fun i => g i == 1) n + ct (fun i => g i == 2) n + ct (fun i => g i == 3) n = n) ↔ ∀ i, i < n → g i ≠ 0) := by
  intro n
  induction n with
  | zero => exact ⟨Nat.le_refl _, fun _ i hi => absurd hi (Nat.not_lt_zero i), fun _ => rfl⟩
  | succ n ih =>
    obtain ⟨a, b⟩ := ih
    rw [ct_s, ct_s, ct_s]
    have g3 := hg n
    by_cases z : g n = 0
    · rw [if_neg (by simp [z]), if_neg (by simp [z]), if_neg (by simp [z])]
      exact ⟨by omega, fun q => by omega, fun q => absurd z (q n (by omega))⟩
    · have one : (if (g n == 1) = true then 1 else 0) + (if (g n == 2) = true then 1 else 0) + (if (g n == 3) = true then 1 else 0) = 1 := by
        rcases (show g n = 1 ∨ g n = 2 ∨ g n = 3 by omega) with q | q | q <;> rw [q] <;> rfl
      refine ⟨by omega, fun q i hi => ?_, fun q => ?_⟩
      · by_cases y : i = n
        · rw [y]; exact z
        · exact b.mp (by omega) i (by omega)
      · have := b.mpr (fun i hi => q i (by omega))
        omega
theorem x_sign {c F : Nat} {h : Hp} (hc : c < 256) : f9_letterOfSign F (nI c) h = some (fr (ls c), h) := by
  refine Ev.eq ?_
  unfold f9_letterOfSign ls
  by_cases a : c = 99
  · exact Ev.pos (by rw [a]; rfl) (Ev.some (by rw [if_pos a]; rfl))
  · refine Ev.neg (by simp (disch := omega) only [up_s, up_k, up_j, mm_neg, mm_def, ni_lt, ni_le, ni_eq, ni_mm, mm_ni, ni_lt_mm, ni_le_mm, mm_lt_ni, mm_le_ni, mm_lt_mm, mm_le_mm, ni_cl, ni_in, nI_add, ni_mul, ni_div, ni_rem, ni_rem2, fr_sub, fr_mm, fr_ge0, fr_lt0, fr_inj, l32_0, l32_1, l32_2, l32_3, l32_4, l32_5, l32_6, l32_7, l32_8, l32_9, l32_10, l32_11, l32_12, l32_13, l32_14, l32_15, l32_16, l32_20, l32_24, l32_25, l32_26, l32_31, l32_32, l32_34, l32_35, l32_39, l32_40, l32_44, l32_45, l32_46, l32_47, l32_48, l32_49, l32_57, l32_58, l32_59, l32_63, l32_64, l32_85, l32_90, l32_97, l32_99, l32_100, l32_110, l32_112, l32_122, l32_124, l32_125, l32_255, l32_680, l32_699, l32_700, l32_999, l32_2500, l32_99999, l32_100000, l32_1000000, if_true, if_false, ite_true, ite_false, ce_nm, Option.bind, if_pos, if_neg]; exact a) ?_
    rw [if_neg a]
    by_cases b : c = 110
    · exact Ev.pos (by rw [b]; rfl) (Ev.some (by rw [if_pos b]; rfl))
    · refine Ev.neg (by simp (disch := omega) only [up_s, up_k, up_j, mm_neg, mm_def, ni_lt, ni_le, ni_eq, ni_mm, mm_ni, ni_lt_mm, ni_le_mm, mm_lt_ni, mm_le_ni, mm_lt_mm, mm_le_mm, ni_cl, ni_in, nI_add, ni_mul, ni_div, ni_rem, ni_rem2, fr_sub, fr_mm, fr_ge0, fr_lt0, fr_inj, l32_0, l32_1, l32_2, l32_3, l32_4, l32_5, l32_6, l32_7, l32_8, l32_9, l32_10, l32_11, l32_12, l32_13, l32_14, l32_15, l32_16, l32_20, l32_24, l32_25, l32_26, l32_31, l32_32, l32_34, l32_35, l32_39, l32_40, l32_44, l32_45, l32_46, l32_47, l32_48, l32_49, l32_57, l32_58, l32_59, l32_63, l32_64, l32_85, l32_90, l32_97, l32_99, l32_100, l32_110, l32_112, l32_122, l32_124, l32_125, l32_255, l32_680, l32_699, l32_700, l32_999, l32_2500, l32_99999, l32_100000, l32_1000000, if_true, if_false, ite_true, ite_false, ce_nm, Option.bind, if_pos, if_neg]; exact b) ?_
      rw [if_neg b]
      by_cases d : c = 112
      · exact Ev.pos (by rw [d]; rfl) (Ev.some (by rw [if_pos d]; rfl))
      · refine Ev.neg (by simp (disch := omega) only [up_s, up_k, up_j, mm_neg, mm_def, ni_lt, ni_le, ni_eq, ni_mm, mm_ni, ni_lt_mm, ni_le_mm, mm_lt_ni, mm_le_ni, mm_lt_mm, mm_le_mm, ni_cl, ni_in, nI_add, ni_mul, ni_div, ni_rem, ni_rem2, fr_sub, fr_mm, fr_ge0, fr_lt0, fr_inj, l32_0, l32_1, l32_2, l32_3, l32_4, l32_5, l32_6, l32_7, l32_8, l32_9, l32_10, l32_11, l32_12, l32_13, l32_14, l32_15, l32_16, l32_20, l32_24, l32_25, l32_26, l32_31, l32_32, l32_34, l32_35, l32_39, l32_40, l32_44, l32_45, l32_46, l32_47, l32_48, l32_49, l32_57, l32_58, l32_59, l32_63, l32_64, l32_85, l32_90, l32_97, l32_99, l32_100, l32_110, l32_112, l32_122, l32_124, l32_125, l32_255, l32_680, l32_699, l32_700, l32_999, l32_2500, l32_99999, l32_100000, l32_1000000, if_true, if_false, ite_true, ite_false, ce_nm, Option.bind, if_pos, if_neg]; exact d) (Ev.some ?_)
        rw [if_neg d]
        rfl
theorem x_clet {T F k : Nat} {t : Nat → Nat} {h : Hp} {x : Tok} (c : CP h T t x) (hk : k < 3) (hF : 1000 ≤ F) : f9_lettersHere F (nI k) h = some (nI (lc t x (k + 1)), h) := by
  obtain ⟨s, e, kk⟩ := x
  obtain ⟨tc, ⟨l1, l2, l3⟩, fine, ⟨o1, o2, o3, o4⟩⟩ := c
  dsimp only at l1 l2 l3 o1 o2 o3 o4
  have hT := tc.1
  refine Ev.eq ?_
  unfold f9_lettersHere
  rw [l1]
  refine Ev.bind (P := fun o => o = (nI (lc t (s, e, kk) (k + 1)), h)) ?_ (fun o ho => by rw [ho]; exact Ev.some rfl)
  refine Ev.it (I := fun i st => i ≤ e - s ∧ st = (nI (ct (fun i => ls (t (s + i)) == k + 1) i), nI (s + i), h)) _ (e - s) ?_ F 0 _ (by omega) (by omega) ⟨by omega, rfl⟩
  rintro i st hi ⟨hie, rfl⟩
  show Ev (f9_lettersHere_b7 F (nI k) (nI (ct (fun i => ls (t (s + i)) == k + 1) i)) (nI (s + i)) h) _
  have nxt : nI (s + i) + (1 : Int32) = nI (s + (i + 1)) := nI_1 _
  have cl := ct_le (fun i => ls (t (s + i)) == k + 1) i
  have cs := ct_s (fun i => ls (t (s + i)) == k + 1) i
  unfold f9_lettersHere_b7
  rw [nxt]
  by_cases z : e ≤ s + i
  · refine Ev.pos (by rw [l2]; simp (disch := omega) only [up_s, up_k, up_j, mm_neg, mm_def, ni_lt, ni_le, ni_eq, ni_mm, mm_ni, ni_lt_mm, ni_le_mm, mm_lt_ni, mm_le_ni, mm_lt_mm, mm_le_mm, ni_cl, ni_in, nI_add, ni_mul, ni_div, ni_rem, ni_rem2, fr_sub, fr_mm, fr_ge0, fr_lt0, fr_inj, l32_0, l32_1, l32_2, l32_3, l32_4, l32_5, l32_6, l32_7, l32_8, l32_9, l32_10, l32_11, l32_12, l32_13, l32_14, l32_15, l32_16, l32_20, l32_24, l32_25, l32_26, l32_31, l32_32, l32_34, l32_35, l32_39, l32_40, l32_44, l32_45, l32_46, l32_47, l32_48, l32_49, l32_57, l32_58, l32_59, l32_63, l32_64, l32_85, l32_90, l32_97, l32_99, l32_100, l32_110, l32_112, l32_122, l32_124, l32_125, l32_255, l32_680, l32_699, l32_700, l32_999, l32_2500, l32_99999, l32_100000, l32_1000000, if_true, if_false, ite_true, ite_false, ce_nm, Option.bind, if_pos, if_neg]; exact z) (Ev.some ?_)
    show (nI (ct (fun i => ls (t (s + i)) == k + 1) i), h) = (nI (ct (fun i => ls (t (s + i)) == k + 1) (e - s)), h)
    rw [show i = e - s by omega]
  · have tb := (tc.2.2 (s + i) (by omega)).1
    have ll := ls_le (t (s + i))
    refine Ev.neg (by rw [l2]; simp (disch := omega) only [up_s, up_k, up_j, mm_neg, mm_def, ni_lt, ni_le, ni_eq, ni_mm, mm_ni, ni_lt_mm, ni_le_mm, mm_lt_ni, mm_le_ni, mm_lt_mm, mm_le_mm, ni_cl, ni_in, nI_add, ni_mul, ni_div, ni_rem, ni_rem2, fr_sub, fr_mm, fr_ge0, fr_lt0, fr_inj, l32_0, l32_1, l32_2, l32_3, l32_4, l32_5, l32_6, l32_7, l32_8, l32_9, l32_10, l32_11, l32_12, l32_13, l32_14, l32_15, l32_16, l32_20, l32_24, l32_25, l32_26, l32_31, l32_32, l32_34, l32_35, l32_39, l32_40, l32_44, l32_45, l32_46, l32_47, l32_48, l32_49, l32_57, l32_58, l32_59, l32_63, l32_64, l32_85, l32_90, l32_97, l32_99, l32_100, l32_110, l32_112, l32_122, l32_124, l32_125, l32_255, l32_680, l32_699, l32_700, l32_999, l32_2500, l32_99999, l32_100000, l32_1000000, if_true, if_false, ite_true, ite_false, ce_nm, Option.bind, if_pos, if_neg]; exact z) ?_
    rw [x_byteAt tc _ (by omega), if_pos (by omega)]
    refine ev_bs ?_
    dsimp only
    rw [x_sign tb]
    refine ev_bs ?_
    dsimp only
    have fk : nI k = fr (k + 1) := (fr_s k).symm
    by_cases y : ls (t (s + i)) = k + 1
    · refine Ev.pos (by rw [fk, y]) (Ev.some ⟨by omega, by omega, ?_⟩)
      rw [if_pos (by simp [y])] at cs
      rw [cs, nI_1]
    · refine Ev.neg (by rw [fk, fr_inj (by omega) (by omega)]; exact y) (Ev.some ⟨by omega, by omega, ?_⟩)
      rw [if_neg (by simp [y]), Nat.add_zero] at cs
      rw [cs]
      rfl
theorem x_mlet {T F k ch : Nat} {t : Nat → Nat} {h : Hp} {x : Tok} (c : RP h T t x) (hch : ch < 256) (hq : ∀ c, c = ch ↔ ls c = k) (hF : 1000 ≤ F) : f12_lettersHere F (nI ch) h = some (nI (lc t x k), h) := by
  obtain ⟨s, e, kk⟩ := x
  obtain ⟨tc, ⟨l1, l2, l3, l4⟩, fine, ⟨o1, o2, o3, o4⟩⟩ := c
  dsimp only at l1 l2 l3 l4 o1 o2 o3 o4
  have hT := tc.1
  refine Ev.eq ?_
  unfold f12_lettersHere
  rw [l1]
  refine Ev.bind (P := fun o => o = (nI (lc t (s, e, kk) k), h)) ?_ (fun o ho => by rw [ho]; exact Ev.some rfl)
  refine Ev.it (I := fun i st => i ≤ e - s ∧ st = (nI (ct (fun i => ls (t (s + i)) == k) i), nI (s + i), h)) _ (e - s) ?_ F 0 _ (by omega) (by omega) ⟨by omega, rfl⟩
  rintro i st hi ⟨hie, rfl⟩
  show Ev (f12_lettersHere_b7 F (nI ch) (nI (ct (fun i => ls (t (s + i)) == k) i)) (nI (s + i)) h) _
  have nxt : nI (s + i) + (1 : Int32) = nI (s + (i + 1)) := nI_1 _
  have cl := ct_le (fun i => ls (t (s + i)) == k) i
  have cs := ct_s (fun i => ls (t (s + i)) == k) i
  unfold f12_lettersHere_b7
  rw [nxt]
  by_cases z : e ≤ s + i
  · refine Ev.pos (by rw [l2]; simp (disch := omega) only [up_s, up_k, up_j, mm_neg, mm_def, ni_lt, ni_le, ni_eq, ni_mm, mm_ni, ni_lt_mm, ni_le_mm, mm_lt_ni, mm_le_ni, mm_lt_mm, mm_le_mm, ni_cl, ni_in, nI_add, ni_mul, ni_div, ni_rem, ni_rem2, fr_sub, fr_mm, fr_ge0, fr_lt0, fr_inj, l32_0, l32_1, l32_2, l32_3, l32_4, l32_5, l32_6, l32_7, l32_8, l32_9, l32_10, l32_11, l32_12, l32_13, l32_14, l32_15, l32_16, l32_20, l32_24, l32_25, l32_26, l32_31, l32_32, l32_34, l32_35, l32_39, l32_40, l32_44, l32_45, l32_46, l32_47, l32_48, l32_49, l32_57, l32_58, l32_59, l32_63, l32_64, l32_85, l32_90, l32_97, l32_99, l32_100, l32_110, l32_112, l32_122, l32_124, l32_125, l32_255, l32_680, l32_699, l32_700, l32_999, l32_2500, l32_99999, l32_100000, l32_1000000, if_true, if_false, ite_true, ite_false, ce_nm, Option.bind, if_pos, if_neg]; exact z) (Ev.some ?_)
    show (nI (ct (fun i => ls (t (s + i)) == k) i), h) = (nI (ct (fun i => ls (t (s + i)) == k) (e - s)), h)
    rw [show i = e - s by omega]
  · obtain ⟨tb, tv⟩ := tc.2.2 (s + i) (by omega)
    refine Ev.neg (by rw [l2]; simp (disch := omega) only [up_s, up_k, up_j, mm_neg, mm_def, ni_lt, ni_le, ni_eq, ni_mm, mm_ni, ni_lt_mm, ni_le_mm, mm_lt_ni, mm_le_ni, mm_lt_mm, mm_le_mm, ni_cl, ni_in, nI_add, ni_mul, ni_div, ni_rem, ni_rem2, fr_sub, fr_mm, fr_ge0, fr_lt0, fr_inj, l32_0, l32_1, l32_2, l32_3, l32_4, l32_5, l32_6, l32_7, l32_8, l32_9, l32_10, l32_11, l32_12, l32_13, l32_14, l32_15, l32_16, l32_20, l32_24, l32_25, l32_26, l32_31, l32_32, l32_34, l32_35, l32_39, l32_40, l32_44, l32_45, l32_46, l32_47, l32_48, l32_49, l32_57, l32_58, l32_59, l32_63, l32_64, l32_85, l32_90, l32_97, l32_99, l32_100, l32_110, l32_112, l32_122, l32_124, l32_125, l32_255, l32_680, l32_699, l32_700, l32_999, l32_2500, l32_99999, l32_100000, l32_1000000, if_true, if_false, ite_true, ite_false, ce_nm, Option.bind, if_pos, if_neg]; exact z) (Ev.grd (ni_in (by omega) (by omega)) ?_)
    have tv' : h 72 (nI (s + i)).toNatClampNeg = nI (t (s + i)) := by rw [ni_cl (by omega)]; exact tv
    by_cases y : ls (t (s + i)) = k
    · refine Ev.pos (by rw [tv', (hq _).mpr y]) (Ev.some ⟨by omega, by omega, ?_⟩)
      rw [if_pos (by simp [y])] at cs
      rw [cs, nI_1]
    · refine Ev.neg (by rw [tv', ni_eq (by omega) (by omega)]; exact fun q => y ((hq _).mp q)) (Ev.some ⟨by omega, by omega, ?_⟩)
      rw [if_neg (by simp [y]), Nat.add_zero] at cs
      rw [cs]
      exact congrArg (fun z => (z, nI (s + (i + 1)), h)) (show nI (ct (fun i => ls (t (s + i)) == k) i) + (0 : Int32) = nI (ct (fun i => ls (t (s + i)) == k) i) by rw [l32_0, nI_add]; rfl)
theorem x_cpk {T F : Nat} {t : Nat → Nat} {h : Hp} {x : Tok} (c : CP h T t x) (hF : 1000 ≤ F) : f9_isPacketHere F h = some (if bo (isPk t x) = true then nI 1 else nI 0, h) := by
  have tc := c.1
  obtain ⟨l1, l2, l3⟩ := c.2.1
  obtain ⟨o1, o2, o3, o4⟩ := c.2.2.2
  have hT := tc.1
  refine Ev.eq ?_
  unfold f9_isPacketHere
  by_cases k1 : x.2.2 = 1
  · refine Ev.pos (by rw [l3, k1]; rfl) ?_
    by_cases le : x.2.1 - x.1 ≤ 4
    · refine Ev.pos (by rw [l1, l2, ni_sub o1]; simp (disch := omega) only [up_s, up_k, up_j, mm_neg, mm_def, ni_lt, ni_le, ni_eq, ni_mm, mm_ni, ni_lt_mm, ni_le_mm, mm_lt_ni, mm_le_ni, mm_lt_mm, mm_le_mm, ni_cl, ni_in, nI_add, ni_mul, ni_div, ni_rem, ni_rem2, fr_sub, fr_mm, fr_ge0, fr_lt0, fr_inj, l32_0, l32_1, l32_2, l32_3, l32_4, l32_5, l32_6, l32_7, l32_8, l32_9, l32_10, l32_11, l32_12, l32_13, l32_14, l32_15, l32_16, l32_20, l32_24, l32_25, l32_26, l32_31, l32_32, l32_34, l32_35, l32_39, l32_40, l32_44, l32_45, l32_46, l32_47, l32_48, l32_49, l32_57, l32_58, l32_59, l32_63, l32_64, l32_85, l32_90, l32_97, l32_99, l32_100, l32_110, l32_112, l32_122, l32_124, l32_125, l32_255, l32_680, l32_699, l32_700, l32_999, l32_2500, l32_99999, l32_100000, l32_1000000, if_true, if_false, ite_true, ite_false, ce_nm, Option.bind, if_pos, if_neg]; exact le) ?_
      rw [l1, l2, ni_sub o1, show (0 : Int32) = nI 0 from rfl, show (1 : Int32) = nI 1 from rfl, show (2 : Int32) = nI 2 from rfl, x_clet c (by omega : 0 < 3) hF]
      refine ev_bs ?_
      dsimp only
      rw [x_clet c (by omega : 1 < 3) hF]
      refine ev_bs ?_
      dsimp only
      rw [x_clet c (by omega : 2 < 3) hF]
      refine ev_bs ?_
      dsimp only
      have b1 := lc_le t x 1
      have b2 := lc_le t x 2
      have b3' := lc_le t x 3
      have sm := (lc_sum (g := fun i => ls (t (x.1 + i))) (fun i => ls_le _) (x.2.1 - x.1)).2
      have sm' : lc t x 1 + lc t x 2 + lc t x 3 = x.2.1 - x.1 ↔ ∀ i, i < x.2.1 - x.1 → ls (t (x.1 + i)) ≠ 0 := sm
      have ev : nI (lc t x (0 + 1)) + nI (lc t x (1 + 1)) + nI (lc t x (2 + 1)) = nI (lc t x 1 + lc t x 2 + lc t x 3) := by rw [nI_add, nI_add]
      by_cases y : lc t x 1 + lc t x 2 + lc t x 3 = x.2.1 - x.1
      · refine Ev.pos (by rw [ev, y]) ?_
        rw [x_clet c (by omega : 1 < 3) hF]
        refine ev_bs ?_
        dsimp only
        by_cases w : lc t x 2 ≤ 1
        · refine Ev.neg (by show ¬ nI 1 < nI (lc t x 2); rw [ni_lt (by omega) (by omega)]; omega) (Ev.some ?_)
          rw [bo_p (show isPk t x from ⟨k1, le, sm'.mp y, w⟩)]
          rfl
        · refine Ev.pos (by show nI 1 < nI (lc t x 2); rw [ni_lt (by omega) (by omega)]; omega) (Ev.some ?_)
          rw [bo_f (show ¬ isPk t x from fun q => w q.2.2.2)]
          rfl
      · refine Ev.neg (by rw [ev, ni_eq (by omega) (by omega)]; exact y) (Ev.some ?_)
        rw [bo_f (show ¬ isPk t x from fun q => y (sm'.mpr q.2.2.1))]
        rfl
    · refine Ev.neg (by rw [l1, l2, ni_sub o1]; simp (disch := omega) only [up_s, up_k, up_j, mm_neg, mm_def, ni_lt, ni_le, ni_eq, ni_mm, mm_ni, ni_lt_mm, ni_le_mm, mm_lt_ni, mm_le_ni, mm_lt_mm, mm_le_mm, ni_cl, ni_in, nI_add, ni_mul, ni_div, ni_rem, ni_rem2, fr_sub, fr_mm, fr_ge0, fr_lt0, fr_inj, l32_0, l32_1, l32_2, l32_3, l32_4, l32_5, l32_6, l32_7, l32_8, l32_9, l32_10, l32_11, l32_12, l32_13, l32_14, l32_15, l32_16, l32_20, l32_24, l32_25, l32_26, l32_31, l32_32, l32_34, l32_35, l32_39, l32_40, l32_44, l32_45, l32_46, l32_47, l32_48, l32_49, l32_57, l32_58, l32_59, l32_63, l32_64, l32_85, l32_90, l32_97, l32_99, l32_100, l32_110, l32_112, l32_122, l32_124, l32_125, l32_255, l32_680, l32_699, l32_700, l32_999, l32_2500, l32_99999, l32_100000, l32_1000000, if_true, if_false, ite_true, ite_false, ce_nm, Option.bind, if_pos, if_neg]; exact le) (Ev.some ?_)
      rw [bo_f (show ¬ isPk t x from fun q => le q.2.1)]
      rfl
  · refine Ev.neg (by rw [l3, l32_1, ni_eq (by omega) (by omega)]; exact k1) (Ev.some ?_)
    rw [bo_f (show ¬ isPk t x from fun q => k1 q.1)]
    rfl
theorem x_mpk {T F : Nat} {t : Nat → Nat} {h : Hp} {x : Tok} (c : RP h T t x) (hF : 1000 ≤ F) : f12_isPacket F h = some (if bo (isPk t x) = true then nI 1 else nI 0, h) := by
  have tc := c.1
  obtain ⟨l1, l2, l3, l4⟩ := c.2.1
  obtain ⟨o1, o2, o3, o4⟩ := c.2.2.2
  have hT := tc.1
  -- nothing is looked at
  have zero : ¬ isPk t x → Ev (Option.bind (ce_it (fun (st : Int32 × Int32 × Int32 × Hp) => f12_isPacket_b34 F st.1 st.2.1 st.2.2.1 st.2.2.2) F ((0 : Int32), (0 : Int32), h 68 8, h)) (fun o34 => if o34.1 = 0 then some ((0 : Int32), o34.2.2) else if (2 : Int32) ≤ o34.2.1 then some ((0 : Int32), o34.2.2) else some ((1 : Int32), o34.2.2))) (fun r => r = (if bo (isPk t x) = true then nI 1 else nI 0, h)) := fun no => by
    have z : ce_it (fun (st : Int32 × Int32 × Int32 × Hp) => f12_isPacket_b34 F st.1 st.2.1 st.2.2.1 st.2.2.2) F ((0 : Int32), (0 : Int32), h 68 8, h) = some (0, 0, h) := by
      obtain ⟨G, hG⟩ : ∃ G, F = G + 1 := ⟨F - 1, by omega⟩
      rw [hG]
      refine it_end (Ev.eq ?_) G
      show Ev (f12_isPacket_b34 (G + 1) 0 0 (h 68 8) h) _
      unfold f12_isPacket_b34
      by_cases q : h 68 7 ≤ h 68 8
      · exact Ev.pos q (Ev.some rfl)
      · exact Ev.neg q (Ev.pos rfl (Ev.some rfl))
    rw [z]
    refine ev_bs (Ev.pos rfl (Ev.some ?_))
    rw [bo_f no]
    rfl
  refine Ev.eq ?_
  unfold f12_isPacket
  by_cases k1 : x.2.2 = 1
  · refine Ev.pos (by rw [l3, k1]; rfl) ?_
    by_cases le : x.2.1 - x.1 ≤ 4
    · refine Ev.neg (by rw [l1, l2, ni_sub o1]; simp (disch := omega) only [up_s, up_k, up_j, mm_neg, mm_def, ni_lt, ni_le, ni_eq, ni_mm, mm_ni, ni_lt_mm, ni_le_mm, mm_lt_ni, mm_le_ni, mm_lt_mm, mm_le_mm, ni_cl, ni_in, nI_add, ni_mul, ni_div, ni_rem, ni_rem2, fr_sub, fr_mm, fr_ge0, fr_lt0, fr_inj, l32_0, l32_1, l32_2, l32_3, l32_4, l32_5, l32_6, l32_7, l32_8, l32_9, l32_10, l32_11, l32_12, l32_13, l32_14, l32_15, l32_16, l32_20, l32_24, l32_25, l32_26, l32_31, l32_32, l32_34, l32_35, l32_39, l32_40, l32_44, l32_45, l32_46, l32_47, l32_48, l32_49, l32_57, l32_58, l32_59, l32_63, l32_64, l32_85, l32_90, l32_97, l32_99, l32_100, l32_110, l32_112, l32_122, l32_124, l32_125, l32_255, l32_680, l32_699, l32_700, l32_999, l32_2500, l32_99999, l32_100000, l32_1000000, if_true, if_false, ite_true, ite_false, ce_nm, Option.bind, if_pos, if_neg]; omega) ?_
      rw [l1]
      refine Ev.bind (P := fun o => o.2.2 = h ∧ ((o.1 = nI 1 ∧ o.2.1 = nI (lc t x 2) ∧ ∀ i, i < x.2.1 - x.1 → ls (t (x.1 + i)) ≠ 0) ∨ (o.1 = nI 0 ∧ ¬ isPk t x))) ?_ (fun o ho => ?_)
      · refine Ev.it (I := fun i st => i ≤ x.2.1 - x.1 ∧ st.2.2.1 = nI (x.1 + i) ∧ st.2.2.2 = h ∧ ((st.1 = nI 1 ∧ st.2.1 = nI (ct (fun i => ls (t (x.1 + i)) == 2) i) ∧ ∀ j, j < i → ls (t (x.1 + j)) ≠ 0) ∨ (st.1 = nI 0 ∧ ¬ isPk t x))) _ (x.2.1 - x.1) ?_ F 0 _ (by omega) (by omega) ⟨by omega, rfl, rfl, Or.inl ⟨rfl, rfl, fun j hj => absurd hj (Nat.not_lt_zero j)⟩⟩
        rintro i ⟨x1, x2, x3, h1⟩ hi hI
        obtain ⟨hie, rfl, rfl, alt⟩ : i ≤ x.2.1 - x.1 ∧ x3 = nI (x.1 + i) ∧ h1 = h ∧ ((x1 = nI 1 ∧ x2 = nI (ct (fun i => ls (t (x.1 + i)) == 2) i) ∧ ∀ j, j < i → ls (t (x.1 + j)) ≠ 0) ∨ (x1 = nI 0 ∧ ¬ isPk t x)) := hI
        show Ev (f12_isPacket_b34 F x1 x2 (nI (x.1 + i)) h1) _
        have nxt : nI (x.1 + i) + (1 : Int32) = nI (x.1 + (i + 1)) := nI_1 _
        have cs := ct_s (fun i => ls (t (x.1 + i)) == 2) i
        unfold f12_isPacket_b34
        rw [nxt]
        by_cases z : x.2.1 ≤ x.1 + i
        · refine Ev.pos (by rw [l2]; simp (disch := omega) only [up_s, up_k, up_j, mm_neg, mm_def, ni_lt, ni_le, ni_eq, ni_mm, mm_ni, ni_lt_mm, ni_le_mm, mm_lt_ni, mm_le_ni, mm_lt_mm, mm_le_mm, ni_cl, ni_in, nI_add, ni_mul, ni_div, ni_rem, ni_rem2, fr_sub, fr_mm, fr_ge0, fr_lt0, fr_inj, l32_0, l32_1, l32_2, l32_3, l32_4, l32_5, l32_6, l32_7, l32_8, l32_9, l32_10, l32_11, l32_12, l32_13, l32_14, l32_15, l32_16, l32_20, l32_24, l32_25, l32_26, l32_31, l32_32, l32_34, l32_35, l32_39, l32_40, l32_44, l32_45, l32_46, l32_47, l32_48, l32_49, l32_57, l32_58, l32_59, l32_63, l32_64, l32_85, l32_90, l32_97, l32_99, l32_100, l32_110, l32_112, l32_122, l32_124, l32_125, l32_255, l32_680, l32_699, l32_700, l32_999, l32_2500, l32_99999, l32_100000, l32_1000000, if_true, if_false, ite_true, ite_false, ce_nm, Option.bind, if_pos, if_neg]; exact z) (Ev.some ⟨rfl, ?_⟩)
          have ei : i = x.2.1 - x.1 := by omega
          rcases alt with ⟨a, b, d⟩ | a
          · rw [ei] at b d
            exact Or.inl ⟨a, b, d⟩
          · exact Or.inr a
        · refine Ev.neg (by rw [l2]; simp (disch := omega) only [up_s, up_k, up_j, mm_neg, mm_def, ni_lt, ni_le, ni_eq, ni_mm, mm_ni, ni_lt_mm, ni_le_mm, mm_lt_ni, mm_le_ni, mm_lt_mm, mm_le_mm, ni_cl, ni_in, nI_add, ni_mul, ni_div, ni_rem, ni_rem2, fr_sub, fr_mm, fr_ge0, fr_lt0, fr_inj, l32_0, l32_1, l32_2, l32_3, l32_4, l32_5, l32_6, l32_7, l32_8, l32_9, l32_10, l32_11, l32_12, l32_13, l32_14, l32_15, l32_16, l32_20, l32_24, l32_25, l32_26, l32_31, l32_32, l32_34, l32_35, l32_39, l32_40, l32_44, l32_45, l32_46, l32_47, l32_48, l32_49, l32_57, l32_58, l32_59, l32_63, l32_64, l32_85, l32_90, l32_97, l32_99, l32_100, l32_110, l32_112, l32_122, l32_124, l32_125, l32_255, l32_680, l32_699, l32_700, l32_999, l32_2500, l32_99999, l32_100000, l32_1000000, if_true, if_false, ite_true, ite_false, ce_nm, Option.bind, if_pos, if_neg]; exact z) ?_
          rcases alt with ⟨rfl, rfl, d⟩ | ⟨rfl, no⟩
          · refine Ev.neg (by decide) ?_
            obtain ⟨tb, tv⟩ := tc.2.2 (x.1 + i) (by omega)
            have ci : ce_in (nI (x.1 + i)) 700 = true := ni_in (by omega) (by omega)
            have tv' : h1 72 (nI (x.1 + i)).toNatClampNeg = nI (t (x.1 + i)) := by rw [ni_cl (by omega)]; exact tv
            obtain ⟨v3, v1, v2⟩ := ls_v (t (x.1 + i))
            have ad0 : nI (ct (fun i => ls (t (x.1 + i)) == 2) i) + (0 : Int32) = nI (ct (fun i => ls (t (x.1 + i)) == 2) i) := by rw [l32_0, nI_add]; rfl
            have eqn : ∀ n, n < 256 → (h1 72 (nI (x.1 + i)).toNatClampNeg = nI n ↔ t (x.1 + i) = n) := fun n hn => by rw [tv', ni_eq (by omega) (by omega)]
            have e110 : (h1 72 (nI (x.1 + i)).toNatClampNeg = (110 : Int32)) ↔ t (x.1 + i) = 110 := eqn 110 (by omega)
            have e112 : (h1 72 (nI (x.1 + i)).toNatClampNeg = (112 : Int32)) ↔ t (x.1 + i) = 112 := eqn 112 (by omega)
            have e99 : (h1 72 (nI (x.1 + i)).toNatClampNeg = (99 : Int32)) ↔ t (x.1 + i) = 99 := eqn 99 (by omega)
            have good : ls (t (x.1 + i)) ≠ 0 → ∀ j, j < i + 1 → ls (t (x.1 + j)) ≠ 0 := fun q j hj => by
              by_cases jj : j = i
              · rw [jj]; exact q
              · exact d j (by omega)
            refine Ev.grd ci ?_
            by_cases c1 : t (x.1 + i) = 110
            · have lv : ls (t (x.1 + i)) = 1 := v1.mpr c1
              rw [if_neg (by simp [lv]), Nat.add_zero] at cs
              refine Ev.pos (e110.mpr c1) (Ev.grd ci (Ev.neg (fun q => by have := e112.mp q; omega) (Ev.some ⟨by omega, by omega, rfl, rfl, Or.inl ⟨rfl, ?_, good (by omega)⟩⟩)))
              dsimp only
              rw [cs]; exact ad0
            · refine Ev.neg (fun q => c1 (e110.mp q)) (Ev.grd ci ?_)
              by_cases c2 : t (x.1 + i) = 112
              · have lv : ls (t (x.1 + i)) = 2 := v2.mpr c2
                rw [if_pos (by simp [lv])] at cs
                refine Ev.pos (e112.mpr c2) (Ev.grd ci (Ev.pos (e112.mpr c2) (Ev.some ⟨by omega, by omega, rfl, rfl, Or.inl ⟨rfl, ?_, good (by omega)⟩⟩)))
                dsimp only
                rw [cs]; exact nI_1 _
              · refine Ev.neg (fun q => c2 (e112.mp q)) (Ev.grd ci ?_)
                by_cases c3 : t (x.1 + i) = 99
                · have lv : ls (t (x.1 + i)) = 3 := v3.mpr c3
                  rw [if_neg (by simp [lv]), Nat.add_zero] at cs
                  refine Ev.pos (e99.mpr c3) (Ev.grd ci (Ev.neg (fun q => c2 (e112.mp q)) (Ev.some ⟨by omega, by omega, rfl, rfl, Or.inl ⟨rfl, ?_, good (by omega)⟩⟩)))
                  dsimp only
                  rw [cs]; exact ad0
                · have ll := ls_le (t (x.1 + i))
                  have lv : ls (t (x.1 + i)) = 0 := by omega
                  exact Ev.neg (fun q => c3 (e99.mp q)) (Ev.grd ci (Ev.neg (fun q => c2 (e112.mp q)) (Ev.some ⟨by omega, by omega, rfl, rfl, Or.inr ⟨rfl, fun q => q.2.2.1 i (by omega) lv⟩⟩)))
          · exact Ev.pos rfl (Ev.some ⟨rfl, Or.inr ⟨rfl, no⟩⟩)
      · obtain ⟨o1', o2', o3'⟩ := o
        obtain ⟨rfl, alt⟩ : o3' = h ∧ ((o1' = nI 1 ∧ o2' = nI (lc t x 2) ∧ ∀ i, i < x.2.1 - x.1 → ls (t (x.1 + i)) ≠ 0) ∨ (o1' = nI 0 ∧ ¬ isPk t x)) := ho
        have bl := lc_le t x 2
        rcases alt with ⟨rfl, rfl, d⟩ | ⟨rfl, no⟩
        · refine Ev.neg (by decide : ¬ (nI 1 : Int32) = 0) ?_
          by_cases w : lc t x 2 ≤ 1
          · refine Ev.neg (by simp (disch := omega) only [up_s, up_k, up_j, mm_neg, mm_def, ni_lt, ni_le, ni_eq, ni_mm, mm_ni, ni_lt_mm, ni_le_mm, mm_lt_ni, mm_le_ni, mm_lt_mm, mm_le_mm, ni_cl, ni_in, nI_add, ni_mul, ni_div, ni_rem, ni_rem2, fr_sub, fr_mm, fr_ge0, fr_lt0, fr_inj, l32_0, l32_1, l32_2, l32_3, l32_4, l32_5, l32_6, l32_7, l32_8, l32_9, l32_10, l32_11, l32_12, l32_13, l32_14, l32_15, l32_16, l32_20, l32_24, l32_25, l32_26, l32_31, l32_32, l32_34, l32_35, l32_39, l32_40, l32_44, l32_45, l32_46, l32_47, l32_48, l32_49, l32_57, l32_58, l32_59, l32_63, l32_64, l32_85, l32_90, l32_97, l32_99, l32_100, l32_110, l32_112, l32_122, l32_124, l32_125, l32_255, l32_680, l32_699, l32_700, l32_999, l32_2500, l32_99999, l32_100000, l32_1000000, if_true, if_false, ite_true, ite_false, ce_nm, Option.bind, if_pos, if_neg]; omega) (Ev.some ?_)
            rw [bo_p (show isPk t x from ⟨k1, le, d, w⟩)]
            rfl
          · refine Ev.pos (by simp (disch := omega) only [up_s, up_k, up_j, mm_neg, mm_def, ni_lt, ni_le, ni_eq, ni_mm, mm_ni, ni_lt_mm, ni_le_mm, mm_lt_ni, mm_le_ni, mm_lt_mm, mm_le_mm, ni_cl, ni_in, nI_add, ni_mul, ni_div, ni_rem, ni_rem2, fr_sub, fr_mm, fr_ge0, fr_lt0, fr_inj, l32_0, l32_1, l32_2, l32_3, l32_4, l32_5, l32_6, l32_7, l32_8, l32_9, l32_10, l32_11, l32_12, l32_13, l32_14, l32_15, l32_16, l32_20, l32_24, l32_25, l32_26, l32_31, l32_32, l32_34, l32_35, l32_39, l32_40, l32_44, l32_45, l32_46, l32_47, l32_48, l32_49, l32_57, l32_58, l32_59, l32_63, l32_64, l32_85, l32_90, l32_97, l32_99, l32_100, l32_110, l32_112, l32_122, l32_124, l32_125, l32_255, l32_680, l32_699, l32_700, l32_999, l32_2500, l32_99999, l32_100000, l32_1000000, if_true, if_false, ite_true, ite_false, ce_nm, Option.bind, if_pos, if_neg]; omega) (Ev.some ?_)
            rw [bo_f (show ¬ isPk t x from fun q => w q.2.2.2)]
            rfl
        · refine Ev.pos rfl (Ev.some ?_)
          rw [bo_f no]
          rfl
    · exact Ev.pos (by rw [l1, l2, ni_sub o1]; simp (disch := omega) only [up_s, up_k, up_j, mm_neg, mm_def, ni_lt, ni_le, ni_eq, ni_mm, mm_ni, ni_lt_mm, ni_le_mm, mm_lt_ni, mm_le_ni, mm_lt_mm, mm_le_mm, ni_cl, ni_in, nI_add, ni_mul, ni_div, ni_rem, ni_rem2, fr_sub, fr_mm, fr_ge0, fr_lt0, fr_inj, l32_0, l32_1, l32_2, l32_3, l32_4, l32_5, l32_6, l32_7, l32_8, l32_9, l32_10, l32_11, l32_12, l32_13, l32_14, l32_15, l32_16, l32_20, l32_24, l32_25, l32_26, l32_31, l32_32, l32_34, l32_35, l32_39, l32_40, l32_44, l32_45, l32_46, l32_47, l32_48, l32_49, l32_57, l32_58, l32_59, l32_63, l32_64, l32_85, l32_90, l32_97, l32_99, l32_100, l32_110, l32_112, l32_122, l32_124, l32_125, l32_255, l32_680, l32_699, l32_700, l32_999, l32_2500, l32_99999, l32_100000, l32_1000000, if_true, if_false, ite_true, ite_false, ce_nm, Option.bind, if_pos, if_neg]; omega) (zero (fun q => le q.2.1))
  · exact Ev.neg (by rw [l3, l32_1, ni_eq (by omega) (by omega)]; exact k1) (zero (fun q => k1 q.1))
