-- the class reads packets
abbrev Pk : Type := Tok × Nat × Nat × (Nat → Nat) × (Nat → Nat)
def nL (t : Nat → Nat) (x : Tok) (n : Nat) (L : Nat → Nat) : Nat → Nat := fun j => if 4 * n ≤ j ∧ j < 4 * n + (x.2.1 - x.1) then ls (t (x.1 + (j - 4 * n))) - 1 else L j
theorem nL_new {t : Nat → Nat} {x : Tok} {n p : Nat} {L : Nat → Nat} (h : p < x.2.1 - x.1) : nL t x n L (4 * n + p) = ls (t (x.1 + p)) - 1 := by
  unfold nL
  rw [if_pos ⟨by omega, by omega⟩, show 4 * n + p - 4 * n = p by omega]
theorem nL_old {t : Nat → Nat} {x : Tok} {n i p : Nat} {L : Nat → Nat} (hi : i < n) (hp : p < 4) : nL t x n L (4 * i + p) = L (4 * i + p) := by
  unfold nL
  rw [if_neg (by omega)]
theorem nL_ct {t : Nat → Nat} {x : Tok} {n : Nat} {L : Nat → Nat} : ct (cq (nL t x n L) n) (x.2.1 - x.1) = lc t x 3 := by
  unfold lc
  refine ct_congr (fun p hp => ?_)
  unfold cq
  rw [nL_new hp]
  have := ls_le (t (x.1 + p))
  generalize ls (t (x.1 + p)) = q at this
  by_cases z : q = 3
  · rw [z]; rfl
  · have e1 : (q == 3) = false := by simp [z]
    have e2 : (q - 1 == 2) = false := by simp; omega
    rw [e1, e2]
noncomputable def pkN (t : Nat → Nat) (T : Nat) (s : Pk) : Pk := (tn t T s.1.2.1, s.2.1 + 1, (if lc t s.1 2 = 0 then 1 else 0), un s.2.2.2.1 s.2.1 (s.1.2.1 - s.1.1), nL t s.1 s.2.1 s.2.2.2.2)
noncomputable def pkP (t : Nat → Nat) (T : Nat) (s : Pk) : Rs Pk := if bo (isPk t s.1) = true then (if (bld s.2.2.2.1 s.2.2.2.2 s.2.1).1 < lc t s.1 3 ∨ (lc t s.1 2 = 0 ∧ lc t s.1 3 < (bld s.2.2.2.1 s.2.2.2.2 s.2.1).1) then .inl (2, s.1.1) else if 12 ≤ s.2.1 ∨ s.2.2.1 ≠ 0 then .inl (3, s.1.1) else .inr (pkN t T s)) else .inl (1, s.1.1)
def okL (n : Nat) (len L : Nat → Nat) : Prop := n ≤ 12 ∧ (∀ i, i < n → len i ≤ 4 ∧ (∀ p, p < len i → L (4 * i + p) ≤ 2) ∧ ct (cq L i) (len i) ≤ (bld len L i).1) ∧ gA len L n (bld len L n)
theorem okL.next {t : Nat → Nat} {x : Tok} {n : Nat} {len L : Nat → Nat} (ok : okL n len L) (hn : n < 12) (pk : isPk t x) (hc : lc t x 3 ≤ (bld len L n).1) : okL (n + 1) (un len n (x.2.1 - x.1)) (nL t x n L) ∧ bld (un len n (x.2.1 - x.1)) (nL t x n L) n = bld len L n := by
  obtain ⟨o1, o2, o3⟩ := ok
  have same : ∀ i, i < n → len i = un len n (x.2.1 - x.1) i ∧ ∀ p, p < len i → L (4 * i + p) = nL t x n L (4 * i + p) := fun i hi => ⟨(un_n (by omega)).symm, fun p hp => (nL_old hi (by have := (o2 i hi).1; omega)).symm⟩
  have eb := (bld_congr n same).symm
  refine ⟨⟨by omega, fun i hi => ?_, ?_⟩, eb⟩
  · by_cases z : i = n
    · rw [z, un_s]
      refine ⟨pk.2.1, fun p hp => ?_, by rw [nL_ct, eb]; exact hc⟩
      rw [nL_new hp]
      have := ls_le (t (x.1 + p))
      omega
    · obtain ⟨a, b, d⟩ := o2 i (by omega)
      rw [un_n z]
      refine ⟨a, fun p hp => ?_, ?_⟩
      · rw [nL_old (by omega) (by omega)]
        exact b p hp
      · rw [← bld_congr i (fun i' hi' => same i' (by omega))]
        refine Nat.le_trans (Nat.le_of_eq (ct_congr (fun p hp => ?_))) d
        unfold cq
        rw [nL_old (by omega) (by omega)]
  · refine gA.next (gA.congr same o3) ?_
    rw [un_s, nL_ct, eb]
    exact hc
theorem told_le {k : Nat} (h : ce_isTold k) : 21 ≤ k ∧ k ≤ 28 := by rcases h with rfl | rfl <;> omega
def TkC (h : Hp) (k n : Nat) (len L : Nat → Nat) (a : Ad) : Prop := h k 7 = nI a.1 ∧ (∀ j, j < a.1 → h (k + 6) j = nI (a.2.1 j)) ∧ (∀ i, i < n → h (k + 1) i = fr (a.2.2.1 i) ∧ h (k + 2) i = fr (a.2.2.2.1 i) ∧ h (k + 3) i = fr (a.2.2.2.2 i)) ∧ (∀ i, i < n → h (k + 4) i = nI (len i)) ∧ ∀ i, i < n → ∀ p, p < len i → h (k + 5) (4 * i + p) = nI (L (4 * i + p))
theorem ni_am (q : Nat) : nI q + (-1 : Int32) = fr q := by
  by_cases z : q = 0
  · rw [z]; decide
  · rw [mm_def, ni_addm (by omega), fr_p (by omega)]
theorem y_adopt {k i p F : Nat} {h : Hp} {a : Ad} (hk : ce_isTold k) (h7 : h k 7 = nI a.1) (st : ∀ j, j < a.1 → h (k + 6) j = nI (a.2.1 j)) (h0 : 0 < a.1) (h12 : a.1 ≤ 12) (ho : a.2.1 (a.1 - 1) < 12) : f9_adopt F k (nI i) (nI p) h = some (hp_up (hp_up (hp_up h k 7 (nI (a.1 - 1))) (k + 1) (a.2.1 (a.1 - 1)) (nI i)) (k + 3) (a.2.1 (a.1 - 1)) (nI p)) := by
  have bn := told_le hk
  refine Ev.eq ?_
  unfold f9_adopt
  refine Ev.neg (by rw [h7]; simp (disch := omega) only [up_s, up_k, up_j, mm_neg, mm_def, ni_lt, ni_le, ni_eq, ni_mm, mm_ni, ni_lt_mm, ni_le_mm, mm_lt_ni, mm_le_ni, mm_lt_mm, mm_le_mm, ni_cl, ni_in, nI_add, ni_mul, ni_div, ni_rem, ni_rem2, fr_sub, fr_mm, fr_ge0, fr_lt0, fr_inj, l32_0, l32_1, l32_2, l32_3, l32_4, l32_5, l32_6, l32_7, l32_8, l32_9, l32_10, l32_11, l32_12, l32_13, l32_14, l32_15, l32_16, l32_20, l32_24, l32_25, l32_26, l32_31, l32_32, l32_34, l32_35, l32_39, l32_40, l32_44, l32_45, l32_46, l32_47, l32_48, l32_49, l32_57, l32_58, l32_59, l32_63, l32_64, l32_85, l32_90, l32_97, l32_99, l32_100, l32_110, l32_112, l32_122, l32_124, l32_125, l32_255, l32_680, l32_699, l32_700, l32_999, l32_2500, l32_99999, l32_100000, l32_1000000, if_true, if_false, ite_true, ite_false, ce_nm, Option.bind, if_pos, if_neg]; omega) (Ev.nm ?_)
  rw [h7, l32_1, ni_sub (by omega)]
  obtain ⟨h1, eh1⟩ : ∃ h1, h1 = hp_up h k 7 (nI (a.1 - 1)) := ⟨_, rfl⟩
  rw [← eh1]
  have s7 : h1 k 7 = nI (a.1 - 1) := by rw [eh1, up_s]
  have s6 : h1 (k + 6) (a.1 - 1) = nI (a.2.1 (a.1 - 1)) := by rw [eh1, up_k _ _ _ _ _ _ (by omega)]; exact st _ (by omega)
  have c7 : (h1 k 7).toNatClampNeg = a.1 - 1 := by rw [s7, ni_cl (by omega)]
  refine Ev.grd (by rw [s7]; exact ni_in (by omega) (by omega)) ?_
  rw [c7, s6, ni_cl (by omega)]
  refine Ev.grd (ni_in (by omega) ho) (Ev.nm ?_)
  obtain ⟨h2, eh2⟩ : ∃ h2, h2 = hp_up h1 (k + 1) (a.2.1 (a.1 - 1)) (nI i) := ⟨_, rfl⟩
  rw [← eh2]
  have s72 : h2 k 7 = nI (a.1 - 1) := by rw [eh2, up_k _ _ _ _ _ _ (by omega)]; exact s7
  have s62 : h2 (k + 6) (a.1 - 1) = nI (a.2.1 (a.1 - 1)) := by rw [eh2, up_k _ _ _ _ _ _ (by omega)]; exact s6
  have c72 : (h2 k 7).toNatClampNeg = a.1 - 1 := by rw [s72, ni_cl (by omega)]
  refine Ev.grd (by rw [s72]; exact ni_in (by omega) (by omega)) ?_
  rw [c72, s62, ni_cl (by omega)]
  exact Ev.grd (ni_in (by omega) ho) (Ev.nm (Ev.some rfl))
theorem y_addPacket {T F k n : Nat} {t : Nat → Nat} {h : Hp} {x : Tok} {len L : Nat → Nat} {a : Ad} (hk : ce_isTold k) (c : CR h T t (.inr x)) (pk : isPk t x) (lx : x.1 < x.2.1) (h0 : h k 0 = nI n) (hn : n < 12) (tk : TkC h k n len L a) (l4 : ∀ i, i < n → len i ≤ 4) (g : gM (un len n (x.2.1 - x.1)) (nL t x n L) n (x.2.1 - x.1) (inA n a)) (hF : 1000 ≤ F) : Ev (f9_addPacket F k h) (fun h' => (∀ q, (q < k ∨ k + 6 < q) → h' q = h q) ∧ h' k 0 = nI (n + 1) ∧ h' k 8 = h k 8 ∧ TkC h' k (n + 1) (un len n (x.2.1 - x.1)) (nL t x n L) (adA n (x.2.1 - x.1) (nL t x n L) a)) := by
  have bn := told_le hk
  obtain ⟨tc, ⟨l1, l2, l3⟩, fine, ⟨o1, o2, o3, o4⟩⟩ := id c.1
  have hT := tc.1
  obtain ⟨k1, le4, lets, p1⟩ := pk
  obtain ⟨t7, t6, t1, t4, t5⟩ := tk
  have cn : ce_in (nI n) 12 = true := ni_in (by omega) hn
  have en : (nI n).toNatClampNeg = n := ni_cl (by omega)
  obtain ⟨l, el⟩ : ∃ l, l = x.2.1 - x.1 := ⟨_, rfl⟩
  obtain ⟨L', eL⟩ : ∃ L', L' = nL t x n L := ⟨_, rfl⟩
  have Ln : ∀ p, p < l → L' (4 * n + p) = ls (t (x.1 + p)) - 1 := fun p hp => by rw [eL]; exact nL_new (by omega)
  have Lo : ∀ i, i < n → ∀ p, p < 4 → L' (4 * i + p) = L (4 * i + p) := fun i hi p hp => by rw [eL]; exact nL_old hi hp
  rw [← el] at le4 lets g ⊢
  rw [← eL] at g ⊢
  have mn4 : (if (4 : Int32) < (h 1 3 - h 1 2) then (4 : Int32) else (h 1 3 - h 1 2)) = nI l := by
    rw [l1, l2, ni_sub o1, ← el, if_neg (by simp (disch := omega) only [up_s, up_k, up_j, mm_neg, mm_def, ni_lt, ni_le, ni_eq, ni_mm, mm_ni, ni_lt_mm, ni_le_mm, mm_lt_ni, mm_le_ni, mm_lt_mm, mm_le_mm, ni_cl, ni_in, nI_add, ni_mul, ni_div, ni_rem, ni_rem2, fr_sub, fr_mm, fr_ge0, fr_lt0, fr_inj, l32_0, l32_1, l32_2, l32_3, l32_4, l32_5, l32_6, l32_7, l32_8, l32_9, l32_10, l32_11, l32_12, l32_13, l32_14, l32_15, l32_16, l32_20, l32_24, l32_25, l32_26, l32_31, l32_32, l32_34, l32_35, l32_39, l32_40, l32_44, l32_45, l32_46, l32_47, l32_48, l32_49, l32_57, l32_58, l32_59, l32_63, l32_64, l32_85, l32_90, l32_97, l32_99, l32_100, l32_110, l32_112, l32_122, l32_124, l32_125, l32_255, l32_680, l32_699, l32_700, l32_999, l32_2500, l32_99999, l32_100000, l32_1000000, if_true, if_false, ite_true, ite_false, ce_nm, Option.bind, if_pos, if_neg]; omega)]
  unfold f9_addPacket
  rw [mn4, h0, en]
  refine Ev.grd cn (Ev.nm (Ev.grd cn (Ev.nm (Ev.grd cn (Ev.nm (Ev.grd cn (Ev.nm (Ev.grd cn ?_))))))))
  obtain ⟨h1, eh1⟩ : ∃ h1, h1 = hp_up (hp_up (hp_up (hp_up h (k + 4) n (nI l)) (k + 1) n (-1 : Int32)) (k + 2) n (-1 : Int32)) (k + 3) n (-1 : Int32) := ⟨_, rfl⟩
  rw [← eh1]
  have kk : ∀ q, q ≠ k + 1 → q ≠ k + 2 → q ≠ k + 3 → q ≠ k + 4 → h1 q = h q := fun q a b d e => by rw [eh1, up_kk _ _ _ _ _ d, up_kk _ _ _ _ _ b, up_kk _ _ _ _ _ a, up_kk _ _ _ _ _ e]
  have s3 : ∀ i, h1 (k + 3) i = if i = n then mm else h (k + 3) i := fun i => by
    rw [eh1]
    by_cases z : i = n
    · rw [z, up_s, if_pos rfl]; rfl
    · rw [up_j _ _ _ _ _ z, up_k _ _ _ _ _ _ (by omega), up_k _ _ _ _ _ _ (by omega), up_k _ _ _ _ _ _ (by omega), if_neg z]
  have s2 : ∀ i, h1 (k + 2) i = if i = n then mm else h (k + 2) i := fun i => by
    rw [eh1, up_k _ _ _ _ _ _ (by omega)]
    by_cases z : i = n
    · rw [z, up_s, if_pos rfl]; rfl
    · rw [up_j _ _ _ _ _ z, up_k _ _ _ _ _ _ (by omega), up_k _ _ _ _ _ _ (by omega), if_neg z]
  have s1 : ∀ i, h1 (k + 1) i = if i = n then mm else h (k + 1) i := fun i => by
    rw [eh1, up_k _ _ _ _ _ _ (by omega), up_k _ _ _ _ _ _ (by omega)]
    by_cases z : i = n
    · rw [z, up_s, if_pos rfl]; rfl
    · rw [up_j _ _ _ _ _ z, up_k _ _ _ _ _ _ (by omega), if_neg z]
  have s4 : ∀ i, h1 (k + 4) i = if i = n then nI l else h (k + 4) i := fun i => by
    rw [eh1, up_k _ _ _ _ _ _ (by omega), up_k _ _ _ _ _ _ (by omega), up_k _ _ _ _ _ _ (by omega)]
    by_cases z : i = n
    · rw [z, up_s, if_pos rfl]
    · rw [up_j _ _ _ _ _ z, if_neg z]
  clear eh1
  have i4 : h1 (k + 4) n - (1 : Int32) = fr l := by rw [s4 n, if_pos rfl, l32_1, fr_sub]
  rw [i4]
  -- the letters, from the last on
  refine Ev.bind (P := fun h2 => (∀ q, (q < k ∨ k + 6 < q) → h2 q = h1 q) ∧ (∀ j, j ≠ 7 → h2 k j = h1 k j) ∧ h2 (k + 4) = h1 (k + 4) ∧ (∀ j, j < 4 * n → h2 (k + 5) j = h1 (k + 5) j) ∧ (∀ q, q < l → h2 (k + 5) (4 * n + q) = nI (L' (4 * n + q))) ∧ ∃ a', pkA n L' l (inA n a) = a' ∧ gM (un len n l) L' n 0 a' ∧ h2 k 7 = nI a'.1 ∧ (∀ j, j < a'.1 → h2 (k + 6) j = nI (a'.2.1 j)) ∧ ∀ i, i < n + 1 → h2 (k + 1) i = fr (a'.2.2.1 i) ∧ h2 (k + 2) i = fr (a'.2.2.2.1 i) ∧ h2 (k + 3) i = fr (a'.2.2.2.2 i)) ?_ (fun h2 q2 => ?_)
  · refine Ev.it (I := fun i st => i ≤ l ∧ st.1 = fr (l - i) ∧ (∀ q, (q < k ∨ k + 6 < q) → st.2 q = h1 q) ∧ (∀ j, j ≠ 7 → st.2 k j = h1 k j) ∧ st.2 (k + 4) = h1 (k + 4) ∧ (∀ j, j < 4 * n → st.2 (k + 5) j = h1 (k + 5) j) ∧ (∀ q, l - i ≤ q → q < l → st.2 (k + 5) (4 * n + q) = nI (L' (4 * n + q))) ∧ ∃ a', pkA n L' l (inA n a) = pkA n L' (l - i) a' ∧ gM (un len n l) L' n (l - i) a' ∧ st.2 k 7 = nI a'.1 ∧ (∀ j, j < a'.1 → st.2 (k + 6) j = nI (a'.2.1 j)) ∧ ∀ i, i < n + 1 → st.2 (k + 1) i = fr (a'.2.2.1 i) ∧ st.2 (k + 2) i = fr (a'.2.2.2.1 i) ∧ st.2 (k + 3) i = fr (a'.2.2.2.2 i)) _ l ?_ F 0 _ (by omega) (by omega) ⟨by omega, rfl, fun _ _ => rfl, fun _ _ => rfl, rfl, fun _ _ => rfl, fun q q1 q2 => absurd q2 (by omega), inA n a, rfl, g, ?_, fun j hj => ?_, fun i hi => ?_⟩
    rotate_left
    · dsimp only [inA]; rw [kk k (by omega) (by omega) (by omega) (by omega)]; exact t7
    · dsimp only [inA] at hj ⊢; rw [kk (k + 6) (by omega) (by omega) (by omega) (by omega)]; exact t6 j hj
    · dsimp only [inA]
      rw [s1 i, s2 i, s3 i]
      by_cases z : i = n
      · rw [z, if_pos rfl, if_pos rfl, if_pos rfl, un_s, un_s, un_s]; exact ⟨rfl, rfl, rfl⟩
      · rw [if_neg z, if_neg z, if_neg z, un_n z, un_n z, un_n z]; exact t1 i (by omega)
    rintro i ⟨x3, h2⟩ hi hI
    obtain ⟨hil, rfl, f2, g2, e4, e5, w5, a', pe, gm, u7, u6, u1⟩ : i ≤ l ∧ x3 = fr (l - i) ∧ (∀ q, (q < k ∨ k + 6 < q) → h2 q = h1 q) ∧ (∀ j, j ≠ 7 → h2 k j = h1 k j) ∧ h2 (k + 4) = h1 (k + 4) ∧ (∀ j, j < 4 * n → h2 (k + 5) j = h1 (k + 5) j) ∧ (∀ q, l - i ≤ q → q < l → h2 (k + 5) (4 * n + q) = nI (L' (4 * n + q))) ∧ ∃ a', pkA n L' l (inA n a) = pkA n L' (l - i) a' ∧ gM (un len n l) L' n (l - i) a' ∧ h2 k 7 = nI a'.1 ∧ (∀ j, j < a'.1 → h2 (k + 6) j = nI (a'.2.1 j)) ∧ ∀ i, i < n + 1 → h2 (k + 1) i = fr (a'.2.2.1 i) ∧ h2 (k + 2) i = fr (a'.2.2.2.1 i) ∧ h2 (k + 3) i = fr (a'.2.2.2.2 i) := hI
    show Ev (f9_addPacket_b54 F k (nI n) (fr (l - i)) h2) _
    unfold f9_addPacket_b54
    by_cases z : l - i = 0
    · rw [z] at pe gm w5
      refine Ev.pos (by rw [z]; decide) (Ev.some ⟨f2, g2, e4, e5, fun q hq => w5 q (by omega) hq, a', pe, gm, u7, u6, u1⟩)
    · obtain ⟨p, hp⟩ : ∃ p, l - i = p + 1 := ⟨l - i - 1, by omega⟩
      have hp1 : l - (i + 1) = p := by omega
      rw [hp] at pe gm w5 ⊢
      rw [fr_s]
      have tc2 : TC h2 T t := tc.eqv (by rw [f2 2 (by omega), kk 2 (by omega) (by omega) (by omega) (by omega)]) (by rw [f2 3 (by omega), kk 3 (by omega) (by omega) (by omega) (by omega)])
      have s12 : h2 1 2 = nI x.1 := by rw [f2 1 (by omega), kk 1 (by omega) (by omega) (by omega) (by omega)]; exact l1
      have tb := (tc.2.2 (x.1 + p) (by omega)).1
      have lz := lets p (by omega)
      have lv := Ln p (by omega)
      have ll := ls_le (t (x.1 + p))
      refine Ev.neg (by simp (disch := omega) only [up_s, up_k, up_j, mm_neg, mm_def, ni_lt, ni_le, ni_eq, ni_mm, mm_ni, ni_lt_mm, ni_le_mm, mm_lt_ni, mm_le_ni, mm_lt_mm, mm_le_mm, ni_cl, ni_in, nI_add, ni_mul, ni_div, ni_rem, ni_rem2, fr_sub, fr_mm, fr_ge0, fr_lt0, fr_inj, l32_0, l32_1, l32_2, l32_3, l32_4, l32_5, l32_6, l32_7, l32_8, l32_9, l32_10, l32_11, l32_12, l32_13, l32_14, l32_15, l32_16, l32_20, l32_24, l32_25, l32_26, l32_31, l32_32, l32_34, l32_35, l32_39, l32_40, l32_44, l32_45, l32_46, l32_47, l32_48, l32_49, l32_57, l32_58, l32_59, l32_63, l32_64, l32_85, l32_90, l32_97, l32_99, l32_100, l32_110, l32_112, l32_122, l32_124, l32_125, l32_255, l32_680, l32_699, l32_700, l32_999, l32_2500, l32_99999, l32_100000, l32_1000000, if_true, if_false, ite_true, ite_false, ce_nm, Option.bind, if_pos, if_neg]; omega) ?_
      rw [s12, nI_add, x_byteAt tc2 _ (by omega), if_pos (by omega)]
      refine ev_bs ?_
      dsimp only
      rw [x_sign tb]
      refine ev_bs ?_
      dsimp only
      have i48 : (nI n * (4 : Int32)) + nI p = nI (4 * n + p) := by rw [show (4 : Int32) = nI 4 from rfl, ni_mul, nI_add]; congr 1; omega
      have fl : fr (ls (t (x.1 + p))) = nI (L' (4 * n + p)) := by rw [fr_p (by omega), lv]
      rw [i48, ni_cl (by omega), fl, ni_am]
      refine Ev.grd (ni_in (by omega) (by omega)) (Ev.nm ?_)
      obtain ⟨h3, eh3⟩ : ∃ h3, h3 = hp_up h2 (k + 5) (4 * n + p) (nI (L' (4 * n + p))) := ⟨_, rfl⟩
      rw [← eh3]
      have k3 : ∀ q, q ≠ k + 5 → h3 q = h2 q := fun q hq => by rw [eh3]; exact up_kk _ _ _ _ _ hq
      have s5 : h3 (k + 5) (4 * n + p) = nI (L' (4 * n + p)) := by rw [eh3, up_s]
      have o5 : ∀ j, j ≠ 4 * n + p → h3 (k + 5) j = h2 (k + 5) j := fun j hj => by rw [eh3, up_j _ _ _ _ _ hj]
      clear eh3
      obtain ⟨gs, gp⟩ := gm.step
      have lb : L' (4 * n + p) ≤ 2 := by omega
      have w5' : ∀ q, p ≤ q → q < l → h3 (k + 5) (4 * n + q) = nI (L' (4 * n + q)) := fun q q1 q2 => by
        by_cases y : q = p
        · rw [y]; exact s5
        · rw [o5 _ (by omega)]; exact w5 q (by omega) q2
      have e5' : ∀ j, j < 4 * n → h3 (k + 5) j = h1 (k + 5) j := fun j hj => by rw [o5 j (by omega)]; exact e5 j hj
      by_cases c1 : L' (4 * n + p) = 1
      · have se : stA n p (L' (4 * n + p)) a' = (a'.1, a'.2.1, a'.2.2.1, un a'.2.2.2.1 n (p + 1), a'.2.2.2.2) := by unfold stA; rw [if_neg (by omega), if_pos c1]
        refine Ev.pos (by rw [c1]; rfl) (Ev.grd cn (Ev.nm (Ev.some ⟨by omega, by omega, by rw [hp1], fun q hq => ?_, fun j hj => ?_, ?_, fun j hj => ?_, fun q q1 q2 => ?_, stA n p (L' (4 * n + p)) a', by rw [hp1]; exact pe, by rw [hp1]; exact gs, ?_, fun j hj => ?_, fun i' hi' => ?_⟩)))
        · dsimp only; rw [up_kk _ _ _ _ _ (by omega), k3 q (by omega)]; exact f2 q hq
        · dsimp only; rw [up_k _ _ _ _ _ _ (by omega), k3 k (by omega)]; exact g2 j hj
        · dsimp only; rw [up_kk _ _ _ _ _ (by omega), k3 _ (by omega)]; exact e4
        · dsimp only; rw [up_k _ _ _ _ _ _ (by omega)]; exact e5' j hj
        · dsimp only; rw [up_k _ _ _ _ _ _ (by omega)]; exact w5' q (by omega) q2
        · dsimp only; rw [up_k _ _ _ _ _ _ (by omega), k3 k (by omega), se]; exact u7
        · rw [se] at hj
          dsimp only at hj ⊢
          rw [up_k _ _ _ _ _ _ (by omega), k3 _ (by omega), se]; exact u6 j hj
        · rw [se]
          dsimp only
          rw [en]
          obtain ⟨q1, q2, q3⟩ := u1 i' hi'
          refine ⟨?_, ?_, ?_⟩
          · rw [up_k _ _ _ _ _ _ (by omega), k3 _ (by omega)]; exact q1
          · by_cases y : i' = n
            · rw [y, up_s, un_s, fr_s]
            · rw [up_j _ _ _ _ _ y, un_n y, k3 _ (by omega)]; exact q2
          · rw [up_k _ _ _ _ _ _ (by omega), k3 _ (by omega)]; exact q3
      · refine Ev.neg (by rw [l32_1, ni_eq (by omega) (by omega)]; exact c1) ?_
        by_cases c2 : L' (4 * n + p) = 2
        · have a0 := gp c2
          have a1 := gm.1
          obtain ⟨os, -⟩ := gm.2.1 (a'.1 - 1) (by omega)
          have se : stA n p (L' (4 * n + p)) a' = (a'.1 - 1, a'.2.1, un a'.2.2.1 (a'.2.1 (a'.1 - 1)) (n + 1), a'.2.2.2.1, un a'.2.2.2.2 (a'.2.1 (a'.1 - 1)) (p + 1)) := by unfold stA; rw [if_pos c2]
          refine Ev.pos (by rw [c2]; rfl) ?_
          rw [y_adopt (a := a') hk (by rw [k3 k (by omega)]; exact u7) (fun j hj => by rw [k3 _ (by omega)]; exact u6 j hj) a0 (by omega) (by omega)]
          refine ev_bs (Ev.some ⟨by omega, by omega, by rw [hp1], fun q hq => ?_, fun j hj => ?_, ?_, fun j hj => ?_, fun q q1 q2 => ?_, stA n p (L' (4 * n + p)) a', by rw [hp1]; exact pe, by rw [hp1]; exact gs, ?_, fun j hj => ?_, fun i' hi' => ?_⟩)
          · dsimp only; rw [up_kk _ _ _ _ _ (by omega), up_kk _ _ _ _ _ (by omega), up_kk _ _ _ _ _ (by omega), k3 q (by omega)]; exact f2 q hq
          · dsimp only; rw [up_k _ _ _ _ _ _ (by omega), up_k _ _ _ _ _ _ (by omega), up_j _ _ _ _ _ hj, k3 k (by omega)]; exact g2 j hj
          · dsimp only; rw [up_kk _ _ _ _ _ (by omega), up_kk _ _ _ _ _ (by omega), up_kk _ _ _ _ _ (by omega), k3 _ (by omega)]; exact e4
          · dsimp only; rw [up_k _ _ _ _ _ _ (by omega), up_k _ _ _ _ _ _ (by omega), up_k _ _ _ _ _ _ (by omega)]; exact e5' j hj
          · dsimp only; rw [up_k _ _ _ _ _ _ (by omega), up_k _ _ _ _ _ _ (by omega), up_k _ _ _ _ _ _ (by omega)]; exact w5' q (by omega) q2
          · dsimp only; rw [up_k _ _ _ _ _ _ (by omega), up_k _ _ _ _ _ _ (by omega), up_s, se]
          · rw [se] at hj
            dsimp only at hj ⊢
            rw [up_k _ _ _ _ _ _ (by omega), up_k _ _ _ _ _ _ (by omega), up_k _ _ _ _ _ _ (by omega), k3 _ (by omega), se]; exact u6 j (by omega)
          · rw [se]
            dsimp only
            obtain ⟨q1, q2, q3⟩ := u1 i' hi'
            refine ⟨?_, ?_, ?_⟩
            · rw [up_k _ _ _ _ _ _ (by omega)]
              by_cases y : i' = a'.2.1 (a'.1 - 1)
              · rw [y, up_s, un_s, fr_s]
              · rw [up_j _ _ _ _ _ y, un_n y, up_k _ _ _ _ _ _ (by omega), k3 _ (by omega)]; exact q1
            · rw [up_k _ _ _ _ _ _ (by omega), up_k _ _ _ _ _ _ (by omega), up_k _ _ _ _ _ _ (by omega), k3 _ (by omega)]; exact q2
            · by_cases y : i' = a'.2.1 (a'.1 - 1)
              · rw [y, up_s, un_s, fr_s]
              · rw [up_j _ _ _ _ _ y, un_n y, up_k _ _ _ _ _ _ (by omega), up_k _ _ _ _ _ _ (by omega), k3 _ (by omega)]; exact q3
        · have se : stA n p (L' (4 * n + p)) a' = a' := by unfold stA; rw [if_neg c2, if_neg c1]
          refine Ev.neg (by rw [l32_2, ni_eq (by omega) (by omega)]; exact c2) (Ev.some ⟨by omega, by omega, by rw [hp1], fun q hq => ?_, fun j hj => ?_, ?_, e5', fun q q1 q2 => w5' q (by omega) q2, stA n p (L' (4 * n + p)) a', by rw [hp1]; exact pe, by rw [hp1]; exact gs, ?_, fun j hj => ?_, fun i' hi' => ?_⟩)
          · dsimp only; rw [k3 q (by omega)]; exact f2 q hq
          · dsimp only; rw [k3 k (by omega)]; exact g2 j hj
          · dsimp only; rw [k3 _ (by omega)]; exact e4
          · dsimp only; rw [k3 k (by omega), se]; exact u7
          · rw [se] at hj ⊢
            dsimp only
            rw [k3 _ (by omega)]; exact u6 j hj
          · rw [se]
            dsimp only
            rw [k3 _ (by omega), k3 _ (by omega), k3 _ (by omega)]; exact u1 i' hi'
  · obtain ⟨f2, g2, e4, e5, w5, a', pe, gm, u7, u6, u1⟩ := q2
    have a1 := gm.1
    have eA : adA n l L' a = puA n a' := by unfold adA; rw [pe]
    rw [eA]
    refine Ev.neg (by rw [u7]; simp (disch := omega) only [up_s, up_k, up_j, mm_neg, mm_def, ni_lt, ni_le, ni_eq, ni_mm, mm_ni, ni_lt_mm, ni_le_mm, mm_lt_ni, mm_le_ni, mm_lt_mm, mm_le_mm, ni_cl, ni_in, nI_add, ni_mul, ni_div, ni_rem, ni_rem2, fr_sub, fr_mm, fr_ge0, fr_lt0, fr_inj, l32_0, l32_1, l32_2, l32_3, l32_4, l32_5, l32_6, l32_7, l32_8, l32_9, l32_10, l32_11, l32_12, l32_13, l32_14, l32_15, l32_16, l32_20, l32_24, l32_25, l32_26, l32_31, l32_32, l32_34, l32_35, l32_39, l32_40, l32_44, l32_45, l32_46, l32_47, l32_48, l32_49, l32_57, l32_58, l32_59, l32_63, l32_64, l32_85, l32_90, l32_97, l32_99, l32_100, l32_110, l32_112, l32_122, l32_124, l32_125, l32_255, l32_680, l32_699, l32_700, l32_999, l32_2500, l32_99999, l32_100000, l32_1000000, if_true, if_false, ite_true, ite_false, ce_nm, Option.bind, if_pos, if_neg]; omega) (Ev.grd (by rw [u7]; exact ni_in (by omega) (by omega)) (Ev.nm (Ev.nm (Ev.nm (Ev.some ?_)))))
    rw [u7, ni_cl (by omega)]
    have v7 : hp_up h2 (k + 6) a'.1 (nI n) k 7 = nI a'.1 := by rw [up_k _ _ _ _ _ _ (by omega)]; exact u7
    rw [v7, nI_1]
    have v0 : hp_up (hp_up h2 (k + 6) a'.1 (nI n)) k 7 (nI (a'.1 + 1)) k 0 = nI n := by rw [up_j _ _ _ _ _ (by omega), up_k _ _ _ _ _ _ (by omega), g2 0 (by omega), kk k (by omega) (by omega) (by omega) (by omega)]; exact h0
    rw [v0, nI_1]
    obtain ⟨h3, eh3⟩ : ∃ h3, h3 = hp_up (hp_up (hp_up h2 (k + 6) a'.1 (nI n)) k 7 (nI (a'.1 + 1))) k 0 (nI (n + 1)) := ⟨_, rfl⟩
    rw [← eh3]
    have k3 : ∀ q, q ≠ k → q ≠ k + 6 → h3 q = h2 q := fun q a b => by rw [eh3, up_kk _ _ _ _ _ a, up_kk _ _ _ _ _ a, up_kk _ _ _ _ _ b]
    have r0 : h3 k 0 = nI (n + 1) := by rw [eh3, up_s]
    have r7 : h3 k 7 = nI (a'.1 + 1) := by rw [eh3, up_j _ _ _ _ _ (by omega), up_s]
    have r8 : h3 k 8 = h2 k 8 := by rw [eh3, up_j _ _ _ _ _ (by omega), up_j _ _ _ _ _ (by omega), up_k _ _ _ _ _ _ (by omega)]
    have r6 : ∀ j, h3 (k + 6) j = if j = a'.1 then nI n else h2 (k + 6) j := fun j => by
      rw [eh3, up_k _ _ _ _ _ _ (by omega), up_k _ _ _ _ _ _ (by omega)]
      by_cases y : j = a'.1
      · rw [y, up_s, if_pos rfl]
      · rw [up_j _ _ _ _ _ y, if_neg y]
    clear eh3
    refine ⟨fun q hq => ?_, r0, ?_, r7, fun j hj => ?_, fun i hi => ?_, fun i hi => ?_, fun i hi p hp => ?_⟩
    · rw [k3 q (by omega) (by omega), f2 q hq, kk q (by omega) (by omega) (by omega) (by omega)]
    · rw [r8, g2 8 (by omega), kk k (by omega) (by omega) (by omega) (by omega)]
    · have hj : j < a'.1 + 1 := hj
      rw [r6 j]
      show _ = nI (un a'.2.1 a'.1 n j)
      by_cases y : j = a'.1
      · rw [if_pos y, y, un_s]
      · rw [if_neg y, un_n y]; exact u6 j (by omega)
    · rw [k3 _ (by omega) (by omega), k3 _ (by omega) (by omega), k3 _ (by omega) (by omega)]; exact u1 i hi
    · rw [k3 _ (by omega) (by omega), e4, s4 i]
      by_cases y : i = n
      · rw [if_pos y, y, un_s]
      · rw [if_neg y, un_n y]; exact t4 i (by omega)
    · rw [k3 _ (by omega) (by omega)]
      by_cases y : i = n
      · rw [y, un_s] at hp
        rw [y]; exact w5 p hp
      · rw [un_n y] at hp
        have l4' := l4 i (by omega)
        rw [e5 _ (by omega), kk _ (by omega) (by omega) (by omega) (by omega), Lo i (by omega) p (by omega)]
        exact t5 i (by omega) p hp
