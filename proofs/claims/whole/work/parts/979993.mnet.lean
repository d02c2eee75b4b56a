-- the reference reads a text; net in both
theorem z_begins {T F : Nat} {t : Nat → Nat} {h : Hp} (tm : TM h T t) (hF : 1000 ≤ F) : Ev (f12_begins F h) (fun h' => FrS h h' ∧ MR h' T t (.inr (tn t T 0))) := by
  unfold f12_begins
  refine Ev.nm (Ev.nm (Ev.nm (Ev.nm ?_)))
  obtain ⟨h1, eh1⟩ : ∃ h1, h1 = hp_up (hp_up (hp_up (hp_up h 68 7 (0 : Int32)) 68 11 (0 : Int32)) 68 5 (0 : Int32)) 68 6 (-1 : Int32) := ⟨_, rfl⟩
  rw [← eh1]
  have k : ∀ q, q ≠ 68 → h1 q = h q := fun c hc => by rw [eh1, up_kk _ _ _ _ _ hc, up_kk _ _ _ _ _ hc, up_kk _ _ _ _ _ hc, up_kk _ _ _ _ _ hc]
  have j0 : ∀ j, (j < 5 ∨ 11 < j) → h1 68 j = h 68 j := fun j hj => by rw [eh1, up_j _ _ _ _ _ (by omega), up_j _ _ _ _ _ (by omega), up_j _ _ _ _ _ (by omega), up_j _ _ _ _ _ (by omega)]
  have s6 : h1 68 6 = mm := by rw [eh1, up_s]; rfl
  have s5 : h1 68 5 = nI 0 := by rw [eh1, up_j _ _ _ _ _ (by omega), up_s]; rfl
  have s11 : h1 68 11 = nI 0 := by rw [eh1, up_j _ _ _ _ _ (by omega), up_j _ _ _ _ _ (by omega), up_s]; rfl
  have s7 : h1 68 7 = nI 0 := by rw [eh1, up_j _ _ _ _ _ (by omega), up_j _ _ _ _ _ (by omega), up_j _ _ _ _ _ (by omega), up_s]; rfl
  have tm1 : TM h1 T t := by unfold TM; rw [j0 4 (by omega), k 72 (by omega)]; exact tm
  refine Ev.bind (x_next tm1 s7 (Nat.zero_le _) hF) (fun h2 q => Ev.some ?_)
  obtain ⟨f, s, e, kk, tk, l⟩ := q
  refine ⟨FrS.trans ⟨k, j0⟩ f.fs, ⟨f.tm tm1, ?_, ?_, ?_⟩, ?_, ?_⟩
  · rw [tn_eq tk]; exact l
  · rw [f.2 11 (by omega)]; exact s11
  · rw [tn_eq tk]; exact tk.okT (Nat.zero_le _)
  · rw [f.2 5 (by omega)]; exact s5
  · rw [f.2 6 (by omega)]; exact s6
theorem z_tail {T F : Nat} {t : Nat → Nat} {h : Hp} {r : Rs St} {Q : Hp ⊕ Hp → Prop} (c : MSt h T t r) (hF : 1000 ≤ F) (k : ∀ h', FrP h h' → MSt h' T t (bnd r (lineS t T)) → Q (.inl h')) : Ev (if (h 68 11) = 0 then (if (h 68 9) = (3 : Int32) then Option.bind (f12_passes F (1 : Int32) h) (fun o130 => ce_nm (hp_up o130 69 ((3 : Int32)).toNatClampNeg ((o130 69 ((3 : Int32)).toNatClampNeg) + (1 : Int32))) (fun h_142 => some (Sum.inl h_142))) else Option.bind (f12_passes F (0 : Int32) h) (fun o130 => ce_nm (hp_up o130 69 ((3 : Int32)).toNatClampNeg ((o130 69 ((3 : Int32)).toNatClampNeg) + (1 : Int32))) (fun h_142 => some (Sum.inl h_142)))) else Option.bind (f12_passes F (1 : Int32) h) (fun o130 => ce_nm (hp_up o130 69 ((3 : Int32)).toNatClampNeg ((o130 69 ((3 : Int32)).toNatClampNeg) + (1 : Int32))) (fun h_142 => some (Sum.inl h_142)))) Q := by
  have t3 : ((3 : Int32)).toNatClampNeg = 3 := rfl
  rw [t3]
  cases r with
  | inl f =>
    have c' : MR h T t (.inl f) := c
    refine Ev.neg c'.bad (Ev.bind (z_pass1 c' hF) (fun h1 q => Ev.nm (Ev.some (k _ (q.1.fp.trans FrP.up) ?_))))
    exact MR.up69 (r := .inl f) q.2
  | inr u =>
    obtain ⟨c1, mn, ma, cz⟩ := c
    have kl := c1.1.2.2.2.2.2.1
    have l3 := c1.1.2.1.2.2.1
    by_cases k3 : u.1.2.2 = 3
    · have pe : lineS t T u = .inr (tn t T u.1.2.1, un u.2.1 3 (u.2.1 3 + 1), u.2.2) := by unfold lineS pS; rw [if_pos k3]; rfl
      refine Ev.pos c1.good (Ev.pos (by rw [l3, k3]; rfl) (Ev.bind (z_pass1 c1 hF) (fun h1 q => Ev.nm (Ev.some (k _ (q.1.fp.trans FrP.up) ?_)))))
      show MSt _ T t (lineS t T u)
      rw [pe]
      have k69 : h1 69 = h 69 := q.1.1 69 (by omega)
      refine ⟨MR.up69 (r := .inr (tn t T u.1.2.1)) q.2, fun j hj => ?_, fun v hv => ?_, ?_⟩
      · dsimp only
        by_cases j3 : j = 3
        · rw [j3, up_s, un_s, k69, mn 3 (by omega), nI_1]
        · rw [up_j _ _ _ _ _ j3, un_n j3, k69]; exact mn j hj
      · dsimp only at hv ⊢
        rw [un_n (by omega)] at hv
        rw [up_kk _ _ _ _ _ (by omega), up_kk _ _ _ _ _ (by omega), q.1.1 73 (by omega), q.1.1 74 (by omega)]
        exact ma v hv
      · dsimp only
        rw [up_k _ _ _ _ _ _ (by omega), q.1.2 12 (by omega), og_un (by omega)]
        exact cz
    · have pe : lineS t T u = .inl (1, u.1.1) := by unfold lineS pS; rw [if_neg k3]; rfl
      refine Ev.pos c1.good (Ev.neg (by rw [l3, l32_3, ni_eq (by omega) (by omega)]; exact k3) (Ev.bind (z_pass0 c1 hF) (fun h1 q => Ev.nm (Ev.some (k _ (q.1.fp.trans FrP.up) ?_)))))
      show MSt _ T t (lineS t T u)
      rw [pe]
      exact MR.up69 (r := .inl (1, u.1.1)) q.2
theorem z_lines {T F n : Nat} {t : Nat → Nat} {h : Hp} (hT : T ≤ 700) (c0 : MSt h T t (lnP t T 0)) (hn : n ≤ 700) (pn : Pn t T n) (fn : Fin_ (lnP t T n)) (hF : 1000 ≤ F) : Ev (ce_it (fun (st : Hp) => f12_net_b42 F st) F h) (fun h' => FrP h h' ∧ MSt h' T t (lnP t T n)) := by
  refine Ev.it (I := fun i st => FrP h st ∧ MSt st T t (lnP t T i)) _ n ?_ F 0 _ (by omega) (by omega) ⟨FrP.refl h, c0⟩
  rintro i h3 hi ⟨f3, c3⟩
  show Ev (f12_net_b42 F h3) _
  unfold f12_net_b42
  by_cases ei : i = n
  · rw [ei] at c3
    cases r : lnP t T n with
    | inl f =>
      have c3' : MR h3 T t (.inl f) := by rw [r] at c3; exact c3
      rw [r] at c3
      exact Ev.neg c3'.bad (Ev.some ⟨f3, c3⟩)
    | inr s =>
      rw [r] at c3 fn
      have k0 : s.1.2.2 = 0 := fn
      exact Ev.pos c3.1.good (Ev.pos (by rw [c3.1.1.2.1.2.2.1, k0]; rfl) (Ev.some ⟨f3, c3⟩))
  · obtain ⟨s, es, k0⟩ := pn i (by omega)
    have is := lnP_is hT i (fun j hj => pn j (by omega)) s es
    obtain ⟨ix, le, on, m3, m4, oa, c15, z⟩ := id is
    have nx : lnP t T (i + 1) = bnd (lineB t T s) (lineS t T) := by rw [lnP_s, es]; rfl
    rw [es] at c3
    obtain ⟨cr, mn, ma, cz⟩ := c3
    have kl := cr.1.2.2.2.2.2.1
    have v3 : h3 69 ((3 : Int32)).toNatClampNeg = nI i := by rw [show ((3 : Int32)).toNatClampNeg = 3 from rfl, mn 3 (by omega), m3]
    refine Ev.pos cr.good (Ev.neg (by rw [cr.1.2.1.2.2.1, l32_0, ni_eq (by omega) (by omega)]; exact k0) ?_)
    have fin : ∀ h4 h', FrP h3 h4 → FrP h4 h' → MSt h' T t (bnd (lineB t T s) (lineS t T)) → i < n ∧ FrP h h' ∧ MSt h' T t (lnP t T (i + 1)) := fun h4 h' a b d => ⟨by omega, (f3.trans a).trans b, by rw [nx]; exact d⟩
    by_cases i0 : i = 0
    · refine Ev.pos (by rw [v3, i0]; rfl) (Ev.bind (z_readsBus cr hF) (fun h4 q4 => ?_))
      obtain ⟨g1, g2, g3, c4, v4⟩ := q4
      have f4 : FrP h3 h4 := ⟨fun q a b _ _ => g1 q a b, fun j hj => g2 j (by omega)⟩
      refine z_tail (r := lineB t T s) ?_ hF (fun h' a b => fin h4 h' f4 a b)
      have lb : lineB t T s = bnd (b3 t T (.inr s.1)) (fun y => .inr (y, un (un s.2.1 0 (vN t (b1 t T (.inr s.1)))) 1 (vN t (b2 t T (.inr s.1))), s.2.2)) := by unfold lineB; rw [if_pos (by omega)]
      rw [lb]
      cases r : b3 t T (.inr s.1) with
      | inl f => rw [r] at c4; exact c4
      | inr y =>
        rw [r] at c4
        obtain ⟨w1, w2⟩ := v4 y r
        refine ⟨c4, fun j hj => ?_, fun v hv => ?_, ?_⟩
        · dsimp only
          by_cases j1 : j = 1
          · rw [j1, un_s]; exact w2
          · rw [un_n j1]
            by_cases j0 : j = 0
            · rw [j0, un_s]; exact w1
            · rw [un_n j0, g3 j j0 j1]; exact mn j hj
        · dsimp only at hv ⊢
          rw [un_n (by omega), un_n (by omega)] at hv
          rw [g1 73 (by omega) (by omega), g1 74 (by omega) (by omega)]
          exact ma v hv
        · dsimp only
          rw [g2 12 (by omega), og_un (by omega), og_un (by omega)]
          exact cz
    · refine Ev.neg (by rw [v3, l32_0, ni_eq (by omega) (by omega)]; exact i0) ?_
      have m30 : ¬ s.2.1 3 = 0 := by omega
      rw [x_misWord cr.1 (by omega : 3 < 9) hF]
      refine ev_bs ?_
      dsimp only
      by_cases w3 : bo (isW t 3 s.1) = true
      · have lb : lineB t T s = nodeP t T s.1 s.2.1 s.2.2 := by unfold lineB; rw [if_neg m30, if_pos w3]
        refine Ev.neg (by rw [if_pos w3]; decide) (Ev.bind (z_readsNode cr mn on.1.2.1 oa ma cz (fun q => z _ (Nat.le_refl _) q) hF) (fun h4 q4 => ?_))
        exact z_tail (r := lineB t T s) (by rw [lb]; exact q4.2) hF (fun h' a b => fin h4 h' q4.1.fp a b)
      · refine Ev.pos (by rw [if_neg w3]; rfl) ?_
        rw [x_misWord cr.1 (by omega : 4 < 9) hF]
        refine ev_bs ?_
        dsimp only
        by_cases w4 : bo (isW t 4 s.1) = true
        · have lb : lineB t T s = cableP t T s.1 s.2.1 s.2.2 := by unfold lineB; rw [if_neg m30, if_neg w3, if_pos w4]
          refine Ev.neg (by rw [if_pos w4]; decide) (Ev.bind (z_readsCable cr mn on oa ma cz c15 hF) (fun h4 q4 => ?_))
          exact z_tail (r := lineB t T s) (by rw [lb]; exact q4.2) hF (fun h' a b => fin h4 h' q4.1 a b)
        · have lb : lineB t T s = .inl (1, s.1.1) := by unfold lineB; rw [if_neg m30, if_neg w3, if_neg w4]
          refine Ev.pos (by rw [if_neg w4]; rfl) (Ev.bind (z_faults (k := 1) cr) (fun h4 q4 => ?_))
          exact z_tail (r := lineB t T s) (by rw [lb]; exact q4.2) hF (fun h' a b => fin h4 h' q4.1.fp a b)
theorem z_net {T F n : Nat} {t : Nat → Nat} {h : Hp} {m0 : Nat → Nat} (tm : TM h T t) (mn0 : MN h m0) (hn : n ≤ 700) (pn : Pn t T n) (fn : Fin_ (lnP t T n)) (hF : 1000 ≤ F) : Ev (f12_net F h) (fun p => (∀ q, q ≠ 68 → q ≠ 69 → q ≠ 70 → q ≠ 73 → q ≠ 74 → p.2 q = h q) ∧ (∀ j, (j < 4 ∨ 12 < j) → p.2 68 j = h 68 j) ∧ p.2 68 4 = nI 0 ∧ ((∃ s, lnP t T n = .inr s ∧ p.1 = nI (s.2.1 3) ∧ MN p.2 s.2.1 ∧ p.2 68 5 = nI 0 ∧ p.2 68 6 = mm) ∨ ∃ f, lnP t T n = .inl f ∧ p.1 = -4 ∧ MN p.2 m0 ∧ p.2 68 5 = nI f.1 ∧ p.2 68 6 = nI f.2)) := by
  have hT := tm.1
  have t3 : ((3 : Int32)).toNatClampNeg = 3 := rfl
  unfold f12_net
  refine Ev.bind (P := fun h1 => (∀ q, q ≠ 69 → q ≠ 70 → h1 q = h q) ∧ ∀ j, j < 125 → h1 70 j = h 69 j ∧ h1 69 j = nI 0) ?_ (fun h1 q1 => ?_)
  · refine Ev.it (I := fun i st => i ≤ 125 ∧ st.1 = nI i ∧ (∀ q, q ≠ 69 → q ≠ 70 → st.2 q = h q) ∧ (∀ j, j < i → st.2 70 j = h 69 j ∧ st.2 69 j = nI 0) ∧ ∀ j, i ≤ j → st.2 69 j = h 69 j) _ 125 ?_ F 0 _ (by omega) (by omega) ⟨by omega, rfl, fun _ _ _ => rfl, fun j hj => absurd hj (by omega), fun _ _ => rfl⟩
    rintro i ⟨x1, h2⟩ hi hI
    obtain ⟨-, rfl, g1, g2, g3⟩ : i ≤ 125 ∧ x1 = nI i ∧ (∀ q, q ≠ 69 → q ≠ 70 → h2 q = h q) ∧ (∀ j, j < i → h2 70 j = h 69 j ∧ h2 69 j = nI 0) ∧ ∀ j, i ≤ j → h2 69 j = h 69 j := hI
    show Ev (f12_net_b2 F (nI i) h2) _
    have nxt : nI i + (1 : Int32) = nI (i + 1) := nI_1 _
    unfold f12_net_b2
    rw [nxt]
    by_cases z : 125 ≤ i
    · exact Ev.pos (by simp (disch := omega) only [up_s, up_k, up_j, mm_neg, mm_def, ni_lt, ni_le, ni_eq, ni_mm, mm_ni, ni_lt_mm, ni_le_mm, mm_lt_ni, mm_le_ni, mm_lt_mm, mm_le_mm, ni_cl, ni_in, nI_add, ni_mul, ni_div, ni_rem, ni_rem2, fr_sub, fr_mm, fr_ge0, fr_lt0, fr_inj, l32_0, l32_1, l32_2, l32_3, l32_4, l32_5, l32_6, l32_7, l32_8, l32_9, l32_10, l32_11, l32_12, l32_13, l32_14, l32_15, l32_16, l32_20, l32_24, l32_25, l32_26, l32_31, l32_32, l32_34, l32_35, l32_39, l32_40, l32_44, l32_45, l32_46, l32_47, l32_48, l32_49, l32_57, l32_58, l32_59, l32_63, l32_64, l32_85, l32_90, l32_97, l32_99, l32_100, l32_110, l32_112, l32_122, l32_124, l32_125, l32_255, l32_680, l32_699, l32_700, l32_999, l32_2500, l32_99999, l32_100000, l32_1000000, if_true, if_false, ite_true, ite_false, ce_nm, Option.bind, if_pos, if_neg]; exact z) (Ev.some ⟨g1, fun j hj => g2 j (by omega)⟩)
    · have ci : ce_in (nI i) 125 = true := ni_in (by omega) (by omega)
      refine Ev.neg (by simp (disch := omega) only [up_s, up_k, up_j, mm_neg, mm_def, ni_lt, ni_le, ni_eq, ni_mm, mm_ni, ni_lt_mm, ni_le_mm, mm_lt_ni, mm_le_ni, mm_lt_mm, mm_le_mm, ni_cl, ni_in, nI_add, ni_mul, ni_div, ni_rem, ni_rem2, fr_sub, fr_mm, fr_ge0, fr_lt0, fr_inj, l32_0, l32_1, l32_2, l32_3, l32_4, l32_5, l32_6, l32_7, l32_8, l32_9, l32_10, l32_11, l32_12, l32_13, l32_14, l32_15, l32_16, l32_20, l32_24, l32_25, l32_26, l32_31, l32_32, l32_34, l32_35, l32_39, l32_40, l32_44, l32_45, l32_46, l32_47, l32_48, l32_49, l32_57, l32_58, l32_59, l32_63, l32_64, l32_85, l32_90, l32_97, l32_99, l32_100, l32_110, l32_112, l32_122, l32_124, l32_125, l32_255, l32_680, l32_699, l32_700, l32_999, l32_2500, l32_99999, l32_100000, l32_1000000, if_true, if_false, ite_true, ite_false, ce_nm, Option.bind, if_pos, if_neg]; exact z) (Ev.grd ci (Ev.grd ci (Ev.nm (Ev.grd ci (Ev.nm (Ev.some ⟨by omega, by omega, rfl, fun q a b => ?_, fun j hj => ?_, fun j hj => ?_⟩))))))
      · dsimp only; rw [up_kk _ _ _ _ _ a, up_kk _ _ _ _ _ b]; exact g1 q a b
      · dsimp only
        rw [ni_cl (by omega)]
        by_cases ji : j = i
        · rw [ji, up_k _ _ _ _ _ _ (by omega), up_s, up_s, g3 i (Nat.le_refl _)]; exact ⟨rfl, rfl⟩
        · rw [up_k _ _ _ _ _ _ (by omega), up_j _ _ _ _ _ ji, up_j _ _ _ _ _ ji, up_k _ _ _ _ _ _ (by omega)]; exact g2 j (by omega)
      · dsimp only
        rw [ni_cl (by omega), up_j _ _ _ _ _ (by omega), up_k _ _ _ _ _ _ (by omega)]; exact g3 j (by omega)
  obtain ⟨g1, g2⟩ := q1
  refine Ev.nm ?_
  obtain ⟨h2, eh2⟩ : ∃ h2, h2 = hp_up h1 68 12 (0 : Int32) := ⟨_, rfl⟩
  rw [← eh2]
  have k2 : ∀ q, q ≠ 68 → h2 q = h1 q := fun q hq => by rw [eh2]; exact up_kk _ _ _ _ _ hq
  have j2 : ∀ j, j ≠ 12 → h2 68 j = h1 68 j := fun j hj => by rw [eh2]; exact up_j _ _ _ _ _ hj
  have s12 : h2 68 12 = nI 0 := by rw [eh2, up_s]; rfl
  clear eh2
  have tm2 : TM h2 T t := by unfold TM; rw [j2 4 (by omega), k2 72 (by omega), g1 68 (by omega) (by omega), g1 72 (by omega) (by omega)]; exact tm
  refine Ev.bind (z_begins tm2 hF) (fun h3 q3 => ?_)
  obtain ⟨f3, c3⟩ := q3
  have ms0 : MSt h3 T t (lnP t T 0) := by
    refine ⟨c3, fun j hj => ?_, fun v hv => absurd hv (Nat.not_lt_zero v), ?_⟩
    · rw [f3.1 69 (by omega), k2 69 (by omega)]; exact (g2 j hj).2
    · show h3 68 12 = nI (ctc (fun _ => 0))
      rw [ctc_zero, f3.2 12 (by omega)]; exact s12
  refine Ev.bind (z_lines hT ms0 hn pn fn hF) (fun h4 q4 => Ev.nm ?_)
  obtain ⟨f4, c4⟩ := q4
  obtain ⟨h5, eh5⟩ : ∃ h5, h5 = hp_up h4 68 4 (0 : Int32) := ⟨_, rfl⟩
  rw [← eh5]
  have k5 : ∀ q, q ≠ 68 → h5 q = h4 q := fun q hq => by rw [eh5]; exact up_kk _ _ _ _ _ hq
  have j5 : ∀ j, j ≠ 4 → h5 68 j = h4 68 j := fun j hj => by rw [eh5]; exact up_j _ _ _ _ _ hj
  have s4 : h5 68 4 = nI 0 := by rw [eh5, up_s]; rfl
  clear eh5
  have kk : ∀ q, q ≠ 68 → q ≠ 69 → q ≠ 70 → q ≠ 73 → q ≠ 74 → h5 q = h q := fun q a b d e f => by rw [k5 q a, f4.1 q a b e f, f3.1 q a, k2 q a, g1 q b d]
  have jj : ∀ j, (j < 4 ∨ 12 < j) → h5 68 j = h 68 j := fun j hj => by rw [j5 j (by omega), f4.2 j hj, f3.2 j (by omega), j2 j (by omega), g1 68 (by omega) (by omega)]
  have k70 : ∀ j, j < 125 → h5 70 j = h 69 j := fun j hj => by rw [k5 70 (by omega), f4.1 70 (by omega) (by omega) (by omega) (by omega), f3.1 70 (by omega), k2 70 (by omega)]; exact (g2 j hj).1
  cases r : lnP t T n with
  | inr s =>
    rw [r] at c4
    obtain ⟨cr, mn, ma, cz⟩ := c4
    refine Ev.pos (by rw [j5 11 (by omega)]; exact cr.good) (Ev.some ⟨kk, jj, s4, Or.inl ⟨s, rfl, ?_, fun j hj => ?_, ?_, ?_⟩⟩)
    · dsimp only; rw [t3, k5 69 (by omega), mn 3 (by omega)]
    · dsimp only; rw [k5 69 (by omega)]; exact mn j hj
    · dsimp only; rw [j5 5 (by omega)]; exact cr.2.1
    · dsimp only; rw [j5 6 (by omega)]; exact cr.2.2
  | inl f =>
    rw [r] at c4
    have cr : MR h4 T t (.inl f) := c4
    refine Ev.neg (by rw [j5 11 (by omega)]; exact cr.bad) ?_
    refine Ev.bind (P := fun h6 => (∀ q, q ≠ 69 → h6 q = h5 q) ∧ ∀ j, j < 125 → h6 69 j = h5 70 j) ?_ (fun h6 q6 => Ev.some ?_)
    · refine Ev.it (I := fun i st => i ≤ 125 ∧ st.1 = nI i ∧ (∀ q, q ≠ 69 → st.2 q = h5 q) ∧ ∀ j, j < i → st.2 69 j = h5 70 j) _ 125 ?_ F 0 _ (by omega) (by omega) ⟨by omega, rfl, fun _ _ => rfl, fun j hj => absurd hj (by omega)⟩
      rintro i ⟨x1, h6⟩ hi hI
      obtain ⟨-, rfl, e1, e2⟩ : i ≤ 125 ∧ x1 = nI i ∧ (∀ q, q ≠ 69 → h6 q = h5 q) ∧ ∀ j, j < i → h6 69 j = h5 70 j := hI
      show Ev (f12_net_b160 F (nI i) h6) _
      have nxt : nI i + (1 : Int32) = nI (i + 1) := nI_1 _
      unfold f12_net_b160
      rw [nxt]
      by_cases z : 125 ≤ i
      · exact Ev.pos (by simp (disch := omega) only [up_s, up_k, up_j, mm_neg, mm_def, ni_lt, ni_le, ni_eq, ni_mm, mm_ni, ni_lt_mm, ni_le_mm, mm_lt_ni, mm_le_ni, mm_lt_mm, mm_le_mm, ni_cl, ni_in, nI_add, ni_mul, ni_div, ni_rem, ni_rem2, fr_sub, fr_mm, fr_ge0, fr_lt0, fr_inj, l32_0, l32_1, l32_2, l32_3, l32_4, l32_5, l32_6, l32_7, l32_8, l32_9, l32_10, l32_11, l32_12, l32_13, l32_14, l32_15, l32_16, l32_20, l32_24, l32_25, l32_26, l32_31, l32_32, l32_34, l32_35, l32_39, l32_40, l32_44, l32_45, l32_46, l32_47, l32_48, l32_49, l32_57, l32_58, l32_59, l32_63, l32_64, l32_85, l32_90, l32_97, l32_99, l32_100, l32_110, l32_112, l32_122, l32_124, l32_125, l32_255, l32_680, l32_699, l32_700, l32_999, l32_2500, l32_99999, l32_100000, l32_1000000, if_true, if_false, ite_true, ite_false, ce_nm, Option.bind, if_pos, if_neg]; exact z) (Ev.some ⟨e1, fun j hj => e2 j (by omega)⟩)
      · have ci : ce_in (nI i) 125 = true := ni_in (by omega) (by omega)
        refine Ev.neg (by simp (disch := omega) only [up_s, up_k, up_j, mm_neg, mm_def, ni_lt, ni_le, ni_eq, ni_mm, mm_ni, ni_lt_mm, ni_le_mm, mm_lt_ni, mm_le_ni, mm_lt_mm, mm_le_mm, ni_cl, ni_in, nI_add, ni_mul, ni_div, ni_rem, ni_rem2, fr_sub, fr_mm, fr_ge0, fr_lt0, fr_inj, l32_0, l32_1, l32_2, l32_3, l32_4, l32_5, l32_6, l32_7, l32_8, l32_9, l32_10, l32_11, l32_12, l32_13, l32_14, l32_15, l32_16, l32_20, l32_24, l32_25, l32_26, l32_31, l32_32, l32_34, l32_35, l32_39, l32_40, l32_44, l32_45, l32_46, l32_47, l32_48, l32_49, l32_57, l32_58, l32_59, l32_63, l32_64, l32_85, l32_90, l32_97, l32_99, l32_100, l32_110, l32_112, l32_122, l32_124, l32_125, l32_255, l32_680, l32_699, l32_700, l32_999, l32_2500, l32_99999, l32_100000, l32_1000000, if_true, if_false, ite_true, ite_false, ce_nm, Option.bind, if_pos, if_neg]; exact z) (Ev.grd ci (Ev.grd ci (Ev.nm (Ev.some ⟨by omega, by omega, rfl, fun q a => ?_, fun j hj => ?_⟩))))
        · dsimp only; rw [up_kk _ _ _ _ _ a]; exact e1 q a
        · dsimp only
          rw [ni_cl (by omega)]
          by_cases ji : j = i
          · rw [ji, up_s, e1 70 (by omega)]
          · rw [up_j _ _ _ _ _ ji]; exact e2 j (by omega)
    · obtain ⟨e1, e2⟩ := q6
      refine ⟨fun q a b d e g => by dsimp only; rw [e1 q b]; exact kk q a b d e g, fun j hj => by dsimp only; rw [e1 68 (by omega)]; exact jj j hj, by dsimp only; rw [e1 68 (by omega)]; exact s4, Or.inr ⟨f, rfl, rfl, fun j hj => ?_, ?_, ?_⟩⟩
      · dsimp only; rw [e2 j hj, k70 j hj]; exact mn0 j hj
      · dsimp only; rw [e1 68 (by omega), j5 5 (by omega)]; exact cr.2.2.1
      · dsimp only; rw [e1 68 (by omega), j5 6 (by omega)]; exact cr.2.2.2
