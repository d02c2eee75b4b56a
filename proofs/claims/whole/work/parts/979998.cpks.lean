-- the class reads packets, one by one
noncomputable def CPk (h : Hp) (k T : Nat) (t : Nat → Nat) (r : Rs Pk) : Prop := match r with
  | .inl f => CR h T t (.inl f)
  | .inr s => CR h T t (.inr s.1) ∧ h k 0 = nI s.2.1 ∧ h k 8 = nI s.2.2.1 ∧ TkC h k s.2.1 s.2.2.2.1 s.2.2.2.2 (bld s.2.2.2.1 s.2.2.2.2 s.2.1)
theorem TkC.eqv {h h' : Hp} {k n : Nat} {len L : Nat → Nat} {a : Ad} (c : TkC h k n len L a) (f : ∀ q, k < q → q ≤ k + 6 → h' q = h q) (f7 : h' k 7 = h k 7) : TkC h' k n len L a := by
  obtain ⟨a1, a2, a3, a4, a5⟩ := c
  exact ⟨by rw [f7]; exact a1, fun j hj => by rw [f _ (by omega) (by omega)]; exact a2 j hj, fun i hi => by rw [f _ (by omega) (by omega), f (k + 2) (by omega) (by omega), f (k + 3) (by omega) (by omega)]; exact a3 i hi, fun i hi => by rw [f _ (by omega) (by omega)]; exact a4 i hi, fun i hi p hp => by rw [f _ (by omega) (by omega)]; exact a5 i hi p hp⟩
def FrQ (k : Nat) (h h' : Hp) : Prop := ∀ q, q ≠ 1 → (q < k ∨ k + 6 < q) → h' q = h q
theorem FrQ.trans {k : Nat} {h1 h2 h3 : Hp} (a : FrQ k h1 h2) (b : FrQ k h2 h3) : FrQ k h1 h3 := fun q n1 n2 => (b q n1 n2).trans (a q n1 n2)
theorem FrK.fq {k : Nat} {h h' : Hp} (f : FrK h h') : FrQ k h h' := fun q n1 _ => f q n1
/-- what holds of packets half read -/
def PI (t : Nat → Nat) (T i : Nat) (s : Pk) : Prop := isT t T s.1 ∧ i ≤ s.1.1 ∧ s.2.2.1 ≤ 1 ∧ okL s.2.1 s.2.2.2.1 s.2.2.2.2
theorem pkP_ok {t : Nat → Nat} {T : Nat} {s u : Pk} (e : pkP t T s = .inr u) : isPk t s.1 ∧ lc t s.1 3 ≤ (bld s.2.2.2.1 s.2.2.2.2 s.2.1).1 ∧ s.2.1 < 12 ∧ u = pkN t T s := by
  unfold pkP at e
  by_cases a : bo (isPk t s.1) = true
  · rw [if_pos a] at e
    by_cases b : (bld s.2.2.2.1 s.2.2.2.2 s.2.1).1 < lc t s.1 3 ∨ (lc t s.1 2 = 0 ∧ lc t s.1 3 < (bld s.2.2.2.1 s.2.2.2.2 s.2.1).1)
    · rw [if_pos b] at e; cases e
    · rw [if_neg b] at e
      by_cases d : 12 ≤ s.2.1 ∨ s.2.2.1 ≠ 0
      · rw [if_pos d] at e; cases e
      · rw [if_neg d] at e
        cases e
        refine ⟨bo_t.mp a, ?_, ?_, rfl⟩
        · apply Classical.byContradiction
          intro q
          exact b (Or.inl (by omega))
        · apply Classical.byContradiction
          intro q
          exact d (Or.inl (by omega))
  · rw [if_neg a] at e; cases e
theorem pkP_is {t : Nat → Nat} {T i : Nat} {s u : Pk} (h : PI t T i s) (e : pkP t T s = .inr u) : PI t T s.1.1 u := by
  obtain ⟨pk, hc, hn, rfl⟩ := pkP_ok e
  obtain ⟨is, le, r1, ok⟩ := h
  obtain ⟨i2, l2⟩ := tn_is is
  refine ⟨i2, l2, ?_, (ok.next hn pk hc).1⟩
  show (if lc t s.1 2 = 0 then 1 else 0) ≤ 1
  by_cases z : lc t s.1 2 = 0
  · rw [if_pos z]; omega
  · rw [if_neg z]; omega
theorem y_readPacket {T F k i : Nat} {t : Nat → Nat} {h : Hp} {s : Pk} (hk : ce_isTold k) (c : CPk h k T t (.inr s)) (pi : PI t T i s) (hF : 1000 ≤ F) : Ev (f9_readPacket F k h) (fun h' => FrQ k h h' ∧ CPk h' k T t (pkP t T s)) := by
  have bn := told_le hk
  obtain ⟨x, n, ro, len, L⟩ := s
  obtain ⟨cr, h0, h8, tk⟩ := c
  obtain ⟨is, le, r1, ok⟩ := pi
  dsimp only at cr h0 h8 tk is le r1 ok
  have n1 : ¬ (nI 1 : Int32) = 0 := by decide
  have oc := ok.2.2.1
  have on := ok.1
  have h7 : h k 7 = nI (bld len L n).1 := tk.1
  have pe : pkP t T (x, n, ro, len, L) = if bo (isPk t x) = true then (if (bld len L n).1 < lc t x 3 ∨ (lc t x 2 = 0 ∧ lc t x 3 < (bld len L n).1) then .inl (2, x.1) else if 12 ≤ n ∨ ro ≠ 0 then .inl (3, x.1) else .inr (pkN t T (x, n, ro, len, L))) else .inl (1, x.1) := rfl
  have bad : ∀ kk, (1 ≤ kk ∧ kk ≤ 4) → pkP t T (x, n, ro, len, L) = .inl (kk, x.1) → Ev (Option.bind (f6_refuse F (nI kk) h) (fun o9 => some o9)) (fun h' => FrQ k h h' ∧ CPk h' k T t (pkP t T (x, n, ro, len, L))) := fun kk hkk e => Ev.bind (y_refuse (k := kk) cr.1 hkk) (fun h' q => Ev.some ⟨q.1.fq, by rw [e]; exact q.2⟩)
  unfold f9_readPacket
  rw [x_cpk cr.1 hF]
  refine ev_bs ?_
  dsimp only
  by_cases pk : bo (isPk t x) = true
  rotate_left
  · exact Ev.pos (by rw [if_neg pk]; rfl) (bad 1 (by omega) (by rw [pe, if_neg pk]))
  · rw [if_pos pk] at pe
    have pkk := bo_t.mp pk
    have b2 := lc_le t x 2
    have b3' := lc_le t x 3
    have l4 := pkk.2.1
    have lx := is.ok.2.2.2 (by have := pkk.1; omega)
    refine Ev.neg (by rw [if_pos pk]; decide) ?_
    rw [show (2 : Int32) = nI 2 from rfl, show f9_lettersHere F (nI 2) h = some (nI (lc t x 3), h) from x_clet cr.1 (by omega : 2 < 3) hF]
    refine ev_bs ?_
    dsimp only
    rw [show f9_lettersHere F (1 : Int32) h = some (nI (lc t x 2), h) from x_clet cr.1 (by omega : 1 < 3) hF]
    refine ev_bs ?_
    dsimp only
    generalize hoc : (bld len L n).1 = ocn at h7 oc pe
    have room : ∀ s0 : Nat, s0 ≤ 1 → s0 = (if lc t x 2 = 0 then 1 else 0) → ¬ (ocn < lc t x 3 ∨ (lc t x 2 = 0 ∧ lc t x 3 < ocn)) → Ev (if (12 : Int32) ≤ h k 0 then Option.bind (f6_refuse F (3 : Int32) h) (fun o79 => some o79) else (if h k 8 = 0 then Option.bind (f9_addPacket F k h) (fun o87 => if nI s0 = 0 ∨ nI s0 = 1 then ce_nm (hp_up o87 k 8 (nI s0)) (fun h_92 => Option.bind (f6_advance F h_92) (fun o96 => some o96)) else none) else Option.bind (f6_refuse F (3 : Int32) h) (fun o79 => some o79))) (fun h' => FrQ k h h' ∧ CPk h' k T t (pkP t T (x, n, ro, len, L))) := fun s0 s1 es no => by
      rw [if_neg no] at pe
      by_cases full : 12 ≤ n
      · exact Ev.pos (by rw [h0]; simp (disch := omega) only [up_s, up_k, up_j, mm_neg, mm_def, ni_lt, ni_le, ni_eq, ni_mm, mm_ni, ni_lt_mm, ni_le_mm, mm_lt_ni, mm_le_ni, mm_lt_mm, mm_le_mm, ni_cl, ni_in, nI_add, ni_mul, ni_div, ni_rem, ni_rem2, fr_sub, fr_mm, fr_ge0, fr_lt0, fr_inj, l32_0, l32_1, l32_2, l32_3, l32_4, l32_5, l32_6, l32_7, l32_8, l32_9, l32_10, l32_11, l32_12, l32_13, l32_14, l32_15, l32_16, l32_20, l32_24, l32_25, l32_26, l32_31, l32_32, l32_34, l32_35, l32_39, l32_40, l32_44, l32_45, l32_46, l32_47, l32_48, l32_49, l32_57, l32_58, l32_59, l32_63, l32_64, l32_85, l32_90, l32_97, l32_99, l32_100, l32_110, l32_112, l32_122, l32_124, l32_125, l32_255, l32_680, l32_699, l32_700, l32_999, l32_2500, l32_99999, l32_100000, l32_1000000, if_true, if_false, ite_true, ite_false, ce_nm, Option.bind, if_pos, if_neg]; exact full) (bad 3 (by omega) (by rw [pe, if_pos (Or.inl full)]))
      · refine Ev.neg (by rw [h0]; simp (disch := omega) only [up_s, up_k, up_j, mm_neg, mm_def, ni_lt, ni_le, ni_eq, ni_mm, mm_ni, ni_lt_mm, ni_le_mm, mm_lt_ni, mm_le_ni, mm_lt_mm, mm_le_mm, ni_cl, ni_in, nI_add, ni_mul, ni_div, ni_rem, ni_rem2, fr_sub, fr_mm, fr_ge0, fr_lt0, fr_inj, l32_0, l32_1, l32_2, l32_3, l32_4, l32_5, l32_6, l32_7, l32_8, l32_9, l32_10, l32_11, l32_12, l32_13, l32_14, l32_15, l32_16, l32_20, l32_24, l32_25, l32_26, l32_31, l32_32, l32_34, l32_35, l32_39, l32_40, l32_44, l32_45, l32_46, l32_47, l32_48, l32_49, l32_57, l32_58, l32_59, l32_63, l32_64, l32_85, l32_90, l32_97, l32_99, l32_100, l32_110, l32_112, l32_122, l32_124, l32_125, l32_255, l32_680, l32_699, l32_700, l32_999, l32_2500, l32_99999, l32_100000, l32_1000000, if_true, if_false, ite_true, ite_false, ce_nm, Option.bind, if_pos, if_neg]; exact full) ?_
        by_cases r0 : ro = 0
        · rw [if_neg (fun q => by rcases q with q | q; exact full q; exact q r0)] at pe
          have hc : lc t x 3 ≤ (bld len L n).1 := by rw [hoc]; exact Nat.le_of_not_lt (fun q => no (Or.inl q))
          obtain ⟨okn, eb⟩ := ok.next (x := x) (t := t) (by omega) pkk hc
          have gm : gM (un len n (x.2.1 - x.1)) (nL t x n L) n (x.2.1 - x.1) (inA n (bld len L n)) := by
            have same : ∀ i, i < n → len i = un len n (x.2.1 - x.1) i ∧ ∀ p, p < len i → L (4 * i + p) = nL t x n L (4 * i + p) := fun i hi => ⟨(un_n (by omega)).symm, fun p hp => (nL_old hi (by have := (ok.2.1 i hi).1; omega)).symm⟩
            have g := gA.congr same ok.2.2
            have m := g.mid (by rw [un_s, nL_ct, eb]; exact hc)
            rw [un_s, eb] at m
            exact m
          refine Ev.pos (by rw [h8, r0]; rfl) (Ev.bind (y_addPacket hk cr pkk lx h0 (by omega) tk (fun i hi => (ok.2.1 i hi).1) gm hF) (fun h1 q1 => ?_))
          obtain ⟨f1, e0, e8, tk1⟩ := q1
          refine Ev.grd (by rcases (show s0 = 0 ∨ s0 = 1 by omega) with q | q; exact Or.inl (by rw [q]; rfl); exact Or.inr (by rw [q]; rfl)) (Ev.nm ?_)
          have c1 : CR (hp_up h1 k 8 (nI s0)) T t (.inr x) := CR.eqv cr (by rw [up_kk _ _ _ _ _ (by omega)]; exact f1 1 (by omega)) (by rw [up_kk _ _ _ _ _ (by omega)]; exact f1 2 (by omega)) (by rw [up_kk _ _ _ _ _ (by omega)]; exact f1 3 (by omega))
          refine Ev.bind (y_adv c1.1 c1.2 hF) (fun h2 q2 => Ev.some ⟨fun q a b => ?_, ?_⟩)
          · rw [q2.1 q a, up_kk _ _ _ _ _ (by omega)]; exact f1 q b
          · rw [pe]
            refine ⟨q2.2, ?_, ?_, ?_⟩
            · show h2 k 0 = nI (n + 1)
              rw [q2.1 k (by omega), up_j _ _ _ _ _ (by omega)]; exact e0
            · show h2 k 8 = nI (if lc t x 2 = 0 then 1 else 0)
              rw [q2.1 k (by omega), up_s, es]
            · show TkC h2 k (n + 1) (un len n (x.2.1 - x.1)) (nL t x n L) (bld (un len n (x.2.1 - x.1)) (nL t x n L) (n + 1))
              rw [bld_s, un_s, eb]
              exact tk1.eqv (fun q a b => by rw [q2.1 q (by omega), up_kk _ _ _ _ _ (by omega)]) (by rw [q2.1 k (by omega), up_j _ _ _ _ _ (by omega)])
        · exact Ev.neg (by rw [h8, l32_0, ni_eq (by omega) (by omega)]; exact r0) (bad 3 (by omega) (by rw [pe, if_pos (Or.inr r0)]))
    have two : (ocn < lc t x 3 ∨ (lc t x 2 = 0 ∧ lc t x 3 < ocn)) → Ev (Option.bind (f6_refuse F (2 : Int32) h) (fun o55 => some o55)) (fun h' => FrQ k h h' ∧ CPk h' k T t (pkP t T (x, n, ro, len, L))) := fun q => bad 2 (by omega) (by rw [pe, if_pos q])
    by_cases p0 : lc t x 2 = 0
    · refine Ev.pos (by rw [p0]; rfl) ?_
      unfold f9_readPacket_j32
      by_cases w : ocn < lc t x 3
      · exact Ev.pos (by rw [h7, ni_lt (by omega) (by omega)]; exact w) (two (Or.inl w))
      · refine Ev.neg (by rw [h7, ni_lt (by omega) (by omega)]; exact w) (Ev.neg (by decide) ?_)
        by_cases v : ocn ≤ lc t x 3
        · exact Ev.pos (by rw [h7, ni_le (by omega) (by omega)]; exact v) (room 1 (by omega) (by rw [if_pos p0]) (by omega))
        · exact Ev.neg (by rw [h7, ni_le (by omega) (by omega)]; exact v) (two (Or.inr ⟨p0, by omega⟩))
    · refine Ev.neg (by rw [l32_0, ni_eq (by omega) (by omega)]; exact p0) ?_
      unfold f9_readPacket_j32
      by_cases w : ocn < lc t x 3
      · exact Ev.pos (by rw [h7, ni_lt (by omega) (by omega)]; exact w) (two (Or.inl w))
      · exact Ev.neg (by rw [h7, ni_lt (by omega) (by omega)]; exact w) (Ev.pos rfl (room 0 (by omega) (by rw [if_neg p0]) (fun q => by rcases q with q | q; exact w q; exact p0 q.1)))
