-- the node line: as a pure step, and in the class
abbrev St : Type := Tok × (Nat → Nat) × (Nat → Nat × Nat)
def addm (m : Nat → Nat) (p fo k w : Nat) : Nat → Nat := fun j => if j = 2 then m 2 + 1 else if j = 5 + m 2 then p else if j = 15 + m 2 then fo else if j = 25 + m 2 then k else if j = 35 + m 2 then w else m j
theorem addm_2 (m : Nat → Nat) (p fo k w : Nat) : addm m p fo k w 2 = m 2 + 1 := by
  unfold addm
  rw [if_pos rfl]
theorem addm_n {m : Nat → Nat} {p fo k w j : Nat} (a : j ≠ 2) (b : j ≠ 5 + m 2) (c : j ≠ 15 + m 2) (d : j ≠ 25 + m 2) (e : j ≠ 35 + m 2) : addm m p fo k w j = m j := by
  unfold addm
  rw [if_neg a, if_neg b, if_neg c, if_neg d, if_neg e]
theorem addm_5 (m : Nat → Nat) (p fo k w : Nat) : addm m p fo k w (5 + m 2) = p := by
  unfold addm
  rw [if_neg (by omega), if_pos rfl]
theorem addm_15 (m : Nat → Nat) (p fo k w : Nat) : addm m p fo k w (15 + m 2) = fo := by
  unfold addm
  rw [if_neg (by omega), if_neg (by omega), if_pos rfl]
theorem addm_25 (m : Nat → Nat) (p fo k w : Nat) : addm m p fo k w (25 + m 2) = k := by
  unfold addm
  rw [if_neg (by omega), if_neg (by omega), if_neg (by omega), if_pos rfl]
theorem addm_35 (m : Nat → Nat) (p fo k w : Nat) : addm m p fo k w (35 + m 2) = w := by
  unfold addm
  rw [if_neg (by omega), if_neg (by omega), if_neg (by omega), if_neg (by omega), if_pos rfl]
theorem addm_og {m : Nat → Nat} {p fo k w : Nat} (h : m 2 < 10) : og (addm m p fo k w) = og m := funext (fun e => addm_n (by omega) (by omega) (by omega) (by omega) (by omega))
theorem OkN.add {m : Nat → Nat} {p fo k w : Nat} (on : OkN m) (h2 : m 2 < 10) (m3 : m 3 ≠ 0) (p1 : 1 ≤ p) (p4 : p ≤ 4) (f1 : fo ≤ 1) (k1 : 1 ≤ k) (k8 : k ≤ 8) (hw : w < 256) : OkN (addm m p fo k w) := by
  obtain ⟨⟨a1, a2, a3, a4, a5⟩, b, c, d, e, f, g⟩ := on
  have sm : ∀ j, j ≤ 4 → j ≠ 2 → addm m p fo k w j = m j := fun j q1 q2 => addm_n q2 (by omega) (by omega) (by omega) (by omega)
  have v5 : ∀ v, v < m 2 → addm m p fo k w (5 + v) = m (5 + v) := fun v q => addm_n (by omega) (by omega) (by omega) (by omega) (by omega)
  refine ⟨⟨by rw [sm 1 (by omega) (by omega)]; exact a1, by rw [addm_2]; omega, fun v hv => ?_, by rw [addm_og h2]; exact a4, fun q hq h0 => ?_⟩, fun v hv => ?_, by rw [sm 0 (by omega) (by omega)]; exact c, fun v hv => ?_, by rw [sm 3 (by omega) (by omega)]; exact e, by rw [sm 4 (by omega) (by omega)]; exact f, fun z => absurd (by rw [sm 3 (by omega) (by omega)] at z; exact z) m3⟩
  · rw [addm_2] at hv
    by_cases vn : v = m 2
    · rw [vn, addm_5]; exact ⟨p1, p4⟩
    · rw [v5 v (by omega)]; exact a3 v (by omega)
  · rw [addm_og h2] at h0 ⊢
    obtain ⟨q1, q2, q3, q4, q5⟩ := a5 q hq h0
    rw [addm_2, v5 _ q1, addm_n (j := 85 + q) (by omega) (by omega) (by omega) (by omega) (by omega), addm_n (j := 85 + (og m q - 1)) (by omega) (by omega) (by omega) (by omega) (by omega)]
    exact ⟨by omega, q2, q3, q4, q5⟩
  · rw [addm_2] at hv
    by_cases vn : v = m 2
    · rw [vn, addm_25, addm_35]; exact ⟨k1, k8, hw⟩
    · rw [addm_n (j := 25 + v) (by omega) (by omega) (by omega) (by omega) (by omega), addm_n (j := 35 + v) (by omega) (by omega) (by omega) (by omega) (by omega)]; exact b v (by omega)
  · rw [addm_2] at hv
    by_cases vn : v = m 2
    · rw [vn, addm_15]; exact f1
    · rw [addm_n (j := 15 + v) (by omega) (by omega) (by omega) (by omega) (by omega)]; exact d v (by omega)
theorem NetR.add {h h' : Hp} {kn p fo k w c : Nat} {m : Nat → Nat} (nr : NetR h kn m) (h2 : m 2 < 10) (e3 : h' kn 3 = nI (m 2 + 1)) (e0 : ∀ j, j ≠ 3 → h' kn j = h kn j) (f5 : h' (kn + 5) = h (kn + 5)) (f6 : h' (kn + 6) = h (kn + 6)) (g : ∀ u, u ≠ m 2 → h' (kn + 1) u = h (kn + 1) u ∧ h' (kn + 2) u = h (kn + 2) u ∧ h' (kn + 3) u = h (kn + 3) u ∧ h' (kn + 4) u = h (kn + 4) u) (a1 : h' (kn + 1) (m 2) = nI p) (a2 : h' (kn + 2) (m 2) = nI fo) (a4 : h' (kn + 4) (m 2) = nI k) (a3 : h' (kn + 3) (m 2) = nI c) (hc : c < 256) (hb : ∀ i, i < k → c / 2 ^ i % 2 = w / 2 ^ (k - 1 - i) % 2) : NetR h' kn (addm m p fo k w) := by
  obtain ⟨⟨c1, c2, c3, c4, c5⟩, n0, n1, n4, n2, cc⟩ := nr
  have sm : ∀ j, j ≤ 4 → j ≠ 2 → addm m p fo k w j = m j := fun j q1 q2 => addm_n q2 (by omega) (by omega) (by omega) (by omega)
  refine ⟨⟨?_, ?_, fun v hv => ?_, fun e he => ?_, fun e he h0 => ?_⟩, ?_, ?_, ?_, fun v hv => ?_, fun v hv => ?_⟩
  · rw [e0 2 (by omega), sm 1 (by omega) (by omega)]; exact c1
  · rw [e3, addm_2]
  · rw [addm_2] at hv
    by_cases vn : v = m 2
    · rw [vn, a1, addm_5]
    · rw [(g v vn).1, addm_n (j := 5 + v) (by omega) (by omega) (by omega) (by omega) (by omega)]; exact c3 v (by omega)
  · rw [f5, addm_og h2]; exact c4 e he
  · rw [addm_og h2] at h0
    rw [f6, addm_n (j := 85 + e) (by omega) (by omega) (by omega) (by omega) (by omega)]; exact c5 e he h0
  · rw [e0 0 (by omega), sm 3 (by omega) (by omega)]; exact n0
  · rw [e0 1 (by omega), sm 0 (by omega) (by omega)]; exact n1
  · rw [e0 4 (by omega), addm_og h2]; exact n4
  · rw [addm_2] at hv
    by_cases vn : v = m 2
    · rw [vn, a2, addm_15]
    · rw [(g v vn).2.1, addm_n (j := 15 + v) (by omega) (by omega) (by omega) (by omega) (by omega)]; exact n2 v (by omega)
  · rw [addm_2] at hv
    by_cases vn : v = m 2
    · rw [vn, a4, a3, addm_25, addm_35]
      exact ⟨rfl, c, hc, rfl, hb⟩
    · rw [(g v vn).2.2.2, (g v vn).2.2.1, addm_n (j := 25 + v) (by omega) (by omega) (by omega) (by omega) (by omega), addm_n (j := 35 + v) (by omega) (by omega) (by omega) (by omega) (by omega)]
      exact cc v (by omega)
theorem x_addNode {kn n F : Nat} {x : Int32} {h : Hp} (hkn : ce_isNet kn) (h3 : h kn 3 = nI n) (hn : n < 10) : f5_addNode F kn x h = some (hp_up (hp_up (hp_up (hp_up (hp_up h (kn + 1) n x) (kn + 2) n (nI 0)) (kn + 3) n (nI 0)) (kn + 4) n (nI 1)) kn 3 (nI (n + 1))) := by
  refine Ev.eq ?_
  have cn : (nI n).toNatClampNeg = n := ni_cl (by omega)
  have ci : ce_in (nI n) 10 = true := ni_in (by omega) hn
  unfold f5_addNode
  refine Ev.neg (by rw [h3]; simp (disch := omega) only [up_s, up_k, up_j, mm_neg, mm_def, ni_lt, ni_le, ni_eq, ni_mm, mm_ni, ni_lt_mm, ni_le_mm, mm_lt_ni, mm_le_ni, mm_lt_mm, mm_le_mm, ni_cl, ni_in, nI_add, ni_mul, ni_div, ni_rem, ni_rem2, fr_sub, fr_mm, fr_ge0, fr_lt0, fr_inj, l32_0, l32_1, l32_2, l32_3, l32_4, l32_5, l32_6, l32_7, l32_8, l32_9, l32_10, l32_11, l32_12, l32_13, l32_14, l32_15, l32_16, l32_20, l32_24, l32_25, l32_26, l32_31, l32_32, l32_34, l32_35, l32_39, l32_40, l32_44, l32_45, l32_46, l32_47, l32_48, l32_49, l32_57, l32_58, l32_59, l32_63, l32_64, l32_85, l32_90, l32_97, l32_99, l32_100, l32_110, l32_112, l32_122, l32_124, l32_125, l32_255, l32_680, l32_699, l32_700, l32_999, l32_2500, l32_99999, l32_100000, l32_1000000, if_true, if_false, ite_true, ite_false, ce_nm, Option.bind, if_pos, if_neg]; omega) (Ev.grd (by rw [h3]; exact ci) (Ev.nm ?_))
  rw [h3, cn]
  have r1 : hp_up h (kn + 1) n x kn 3 = nI n := by rw [up_k _ _ _ _ _ _ (by omega)]; exact h3
  refine Ev.grd (by rw [r1]; exact ci) (Ev.nm ?_)
  rw [r1, cn, vpn0]
  have r2 : hp_up (hp_up h (kn + 1) n x) (kn + 2) n (nI 0) kn 3 = nI n := by rw [up_k _ _ _ _ _ _ (by omega)]; exact r1
  refine Ev.grd (by rw [r2]; exact ci) (Ev.nm ?_)
  rw [r2, cn]
  have r3 : hp_up (hp_up (hp_up h (kn + 1) n x) (kn + 2) n (nI 0)) (kn + 3) n (0 : Int32) kn 3 = nI n := by rw [up_k _ _ _ _ _ _ (by omega)]; exact r2
  refine Ev.grd (by rw [r3]; exact ci) (Ev.nm ?_)
  rw [r3, cn]
  have r4 : hp_up (hp_up (hp_up (hp_up h (kn + 1) n x) (kn + 2) n (nI 0)) (kn + 3) n (0 : Int32)) (kn + 4) n (1 : Int32) kn 3 = nI n := by rw [up_k _ _ _ _ _ _ (by omega)]; exact r3
  refine Ev.nm (Ev.some ?_)
  rw [r4, nI_1]
  rfl
