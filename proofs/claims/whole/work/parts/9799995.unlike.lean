-- unlike
noncomputable def olt (m : Nat → Nat) (W p : Nat) : Nat := if W ≠ 0 ∧ p < m (5 + (W - 1)) then ltr m (W - 1) p + 1 else 0
noncomputable def uq (m : Nat → Nat) (n : Nat) (len L : Nat → Nat) (W j : Nat) : Nat → Bool := fun p => olt m W p != tl n len L j p
noncomputable def ndx (m : Nat → Nat) (r j : Nat) : Nat := fi (fun w => bo (Cn (og m) r w ∧ nI j = fr (ids (og m) (Pf m (sM m)) r w))) (m 2)
def smu (U : Nat → Nat) : Nat → Nat
  | 0 => 0
  | k + 1 => smu U k + U k
theorem smu_s (U : Nat → Nat) (k : Nat) : smu U (k + 1) = smu U k + U k := rfl
theorem ct_run {q : Nat → Bool} {a : Nat} : ∀ d, (∀ p, a ≤ p → p < a + d → q p = true) → ct q (a + d) = d + ct q a := by
  intro d
  induction d with
  | zero => intro _; rw [Nat.add_zero, Nat.zero_add]
  | succ d ih =>
    intro h
    rw [show a + (d + 1) = (a + d) + 1 by omega, ct_s, ih (fun p h1 h2 => h p h1 (by omega)), if_pos (h (a + d) (by omega) (by omega))]
    omega
theorem ct_stop {q : Nat → Bool} {a : Nat} : ∀ d, (∀ p, a ≤ p → p < a + d → q p = false) → ct q (a + d) = ct q a := by
  intro d
  induction d with
  | zero => intro _; rfl
  | succ d ih =>
    intro h
    rw [show a + (d + 1) = (a + d) + 1 by omega, ct_s, ih (fun p h1 h2 => h p h1 (by omega)), if_neg (by rw [h (a + d) (by omega) (by omega)]; decide)]
    omega
theorem ct_mm {q : Nat → Bool} {s l N : Nat} (hs : s ≤ N) (hl : l ≤ N) (h1 : ∀ p, min s l ≤ p → p < max s l → q p = true) (h2 : ∀ p, max s l ≤ p → p < N → q p = false) : ct q N = max s l - min s l + ct q (min s l) := by
  obtain ⟨a, ea⟩ : ∃ a, a = min s l := ⟨_, rfl⟩
  obtain ⟨b, eb⟩ : ∃ b, b = max s l := ⟨_, rfl⟩
  rw [← ea, ← eb] at h1
  rw [← eb] at h2
  rw [← ea, ← eb]
  have e1 := ct_run (q := q) (a := a) (b - a) (fun p x y => h1 p x (by omega))
  have e2 := ct_stop (q := q) (a := b) (N - b) (fun p x y => h2 p x (by omega))
  rw [show a + (b - a) = b by omega] at e1
  rw [show b + (N - b) = N by omega] at e2
  rw [e2, e1]
theorem ndx_in {m : Nat → Nat} {r j : Nat} {hp : Nat → Nat} (ok : OkG m) (T : Tr (og m) (Pf m (sM m)) r hp) (hr : r < m 2) (hj : j < sz (og m) r) : ∃ w, w < m 2 ∧ Cn (og m) r w ∧ ids (og m) (Pf m (sM m)) r w = j + 1 ∧ ndx m r j = w + 1 := by
  have s10 : sz (og m) r ≤ 10 := ct_le _ _
  have sp := ids_spec T
  rw [ids_sz T] at sp
  obtain ⟨i1, i2, i3, i4, i5⟩ := sp
  obtain ⟨w, w1, w2⟩ := i2 (j + 1) (by omega) (by omega)
  have hw := cn_lt ok w1 hr
  refine ⟨w, hw, w1, w2, ?_⟩
  unfold ndx
  refine fi_one hw (bo_p ⟨w1, by rw [w2, fr_s]⟩) (fun i hi q => ?_)
  obtain ⟨q1, q2⟩ := bo_t.mp q
  have b := i1 i q1
  rw [← fr_s j, fr_inj (by omega) (by omega)] at q2
  exact i3 i w q1 w1 (by omega)
theorem ndx_out {m : Nat → Nat} {r j : Nat} {hp : Nat → Nat} (T : Tr (og m) (Pf m (sM m)) r hp) (hj : sz (og m) r ≤ j) (hb : j < 2147483648) : ndx m r j = 0 := by
  have s10 : sz (og m) r ≤ 10 := ct_le _ _
  have sp := ids_spec T
  rw [ids_sz T] at sp
  obtain ⟨i1, i2, i3, i4, i5⟩ := sp
  unfold ndx
  refine fi_none (fun i hi => bo_f (fun q => ?_))
  have b := i1 i q.1
  have e := q.2
  rw [fr_p (by omega), ni_eq hb (by omega)] at e
  omega
theorem x_ndx {m : Nat → Nat} {kn v r j F : Nat} {hp : Nat → Nat} {h : Hp} (on : OkN m) (c : Co h m kn) (l : Liv h m) (tf : Tf m v r hp) (hb : j < 2147483648) : f4_nodeWith F (nI v) (nI j) h = some (fr (ndx m r j), h) := by
  obtain ⟨hv, hr, hc, hR, T, hfi, tr⟩ := tf
  have s10 : sz (og m) r ≤ 10 := ct_le _ _
  by_cases z : j < sz (og m) r
  · obtain ⟨w, w1, w2, w3, w4⟩ := ndx_in on.1 T hr z
    rw [x_nodeWith on.1 (c.cs l) T hr hR l.2.2 hc w2 w3, w4, fr_s]
  · rw [x_nodeWithout (nI j) on.1 (c.cs l) T hr hR l.2.2 hc (fun i hi q => by rw [ni_eq hb (by omega)] at q; omega), ndx_out T (by omega) hb, fr_0]
theorem uq_t {m : Nat → Nat} {n W j p : Nat} {len L : Nat → Nat} (h : ¬ olt m W p = tl n len L j p) : uq m n len L W j p = true := by
  unfold uq
  simp [h]
theorem uq_f {m : Nat → Nat} {n W j p : Nat} {len L : Nat → Nat} (h : olt m W p = tl n len L j p) : ¬ uq m n len L W j p = true := by
  unfold uq
  simp [h]
theorem olt_le (m : Nat → Nat) (W p : Nat) : olt m W p ≤ 3 := by
  unfold olt
  by_cases z : W ≠ 0 ∧ p < m (5 + (W - 1))
  · rw [if_pos z]
    have := ltr_le m (W - 1) p
    omega
  · rw [if_neg z]; omega
theorem tl_le {n : Nat} {len L : Nat → Nat} (ok : okL n len L) (i p : Nat) : tl n len L i p ≤ 3 := by
  unfold tl
  by_cases z : i < n ∧ p < len i
  · rw [if_pos z]
    have := (ok.2.1 i z.1).2.1 p z.2
    omega
  · rw [if_neg z]; omega
theorem olt_c {m : Nat → Nat} {w p : Nat} (ok : OkG m) (hw : w < m 2) (hp : p < 4) : (if isP m (nI w) (nI p) = true then nI (ltr m w (nI p).toNatClampNeg) else mm) = fr (olt m (w + 1) p) := by
  unfold olt
  rw [ni_cl (by omega), show w + 1 - 1 = w from rfl]
  by_cases z : p < m (5 + w)
  · rw [isP_t hw z, if_pos rfl, if_pos ⟨by omega, z⟩, fr_s]
  · have h2 := ok.2.1
    have hpp := ok.2.2.1 w hw
    rw [isP_out ok hw (fun q hq e => by rw [ni_eq (by omega) (by omega)] at e; omega), if_neg (by decide), if_neg (fun q => z q.2), fr_0]
/-- what is unlike at one id, in the class -/
theorem x_cunl {m : Nat → Nat} {kn kt n j W B F : Nat} {len L : Nat → Nat} {h : Hp} {x1 x4 : Int32} (on : OkN m) (c : Co h m kn) (l : Liv h m) (ot : OTk h kt n len L) (hj : j < 20) (hW : W ≤ m 2) (hF : 1000 ≤ F) : ce_it (fun (st : Int32 × Int32 × Hp) => f11_unlike_b63 F x1 x4 (nI j) (fr W) st.1 st.2.1 st.2.2) F (nI B, (0 : Int32), h) = some (nI (B + ct (uq m n len L W j) 4), h) := by
  obtain ⟨a1, a2, hk, ok, h0, td, h29, lm, tm⟩ := ot
  have bk := told_le hk
  have h2 := on.1.2.1
  refine Ev.eq ?_
  refine Ev.it (I := fun p st => p ≤ 4 ∧ st = (nI (B + ct (uq m n len L W j) p), nI p, h)) _ 4 ?_ F 0 _ (by omega) (by omega) ⟨by omega, rfl⟩
  rintro p st hp ⟨-, rfl⟩
  show Ev (f11_unlike_b63 F x1 x4 (nI j) (fr W) (nI (B + ct (uq m n len L W j) p)) (nI p) h) _
  have nxt : nI p + (1 : Int32) = nI (p + 1) := nI_1 _
  have nxb : nI (B + ct (uq m n len L W j) p) + (1 : Int32) = nI (B + ct (uq m n len L W j) p + 1) := nI_1 _
  have cs := ct_s (uq m n len L W j) p
  have tb := tl_le ok j p
  have ob := olt_le m W p
  unfold f11_unlike_b63
  rw [nxt, nxb]
  by_cases z : 4 ≤ p
  · refine Ev.pos (by simp (disch := omega) only [up_s, up_k, up_j, mm_neg, mm_def, ni_lt, ni_le, ni_eq, ni_mm, mm_ni, ni_lt_mm, ni_le_mm, mm_lt_ni, mm_le_ni, mm_lt_mm, mm_le_mm, ni_cl, ni_in, nI_add, ni_mul, ni_div, ni_rem, ni_rem2, fr_sub, fr_mm, fr_ge0, fr_lt0, fr_inj, l32_0, l32_1, l32_2, l32_3, l32_4, l32_5, l32_6, l32_7, l32_8, l32_9, l32_10, l32_11, l32_12, l32_13, l32_14, l32_15, l32_16, l32_20, l32_24, l32_25, l32_26, l32_31, l32_32, l32_34, l32_35, l32_39, l32_40, l32_44, l32_45, l32_46, l32_47, l32_48, l32_49, l32_57, l32_58, l32_59, l32_63, l32_64, l32_85, l32_90, l32_97, l32_99, l32_100, l32_110, l32_112, l32_122, l32_124, l32_125, l32_255, l32_680, l32_699, l32_700, l32_999, l32_2500, l32_99999, l32_100000, l32_1000000, if_true, if_false, ite_true, ite_false, ce_nm, Option.bind, if_pos, if_neg]; exact z) (Ev.some ?_)
    rw [show p = 4 by omega]
  · refine Ev.neg (by simp (disch := omega) only [up_s, up_k, up_j, mm_neg, mm_def, ni_lt, ni_le, ni_eq, ni_mm, mm_ni, ni_lt_mm, ni_le_mm, mm_lt_ni, mm_le_ni, mm_lt_mm, mm_le_mm, ni_cl, ni_in, nI_add, ni_mul, ni_div, ni_rem, ni_rem2, fr_sub, fr_mm, fr_ge0, fr_lt0, fr_inj, l32_0, l32_1, l32_2, l32_3, l32_4, l32_5, l32_6, l32_7, l32_8, l32_9, l32_10, l32_11, l32_12, l32_13, l32_14, l32_15, l32_16, l32_20, l32_24, l32_25, l32_26, l32_31, l32_32, l32_34, l32_35, l32_39, l32_40, l32_44, l32_45, l32_46, l32_47, l32_48, l32_49, l32_57, l32_58, l32_59, l32_63, l32_64, l32_85, l32_90, l32_97, l32_99, l32_100, l32_110, l32_112, l32_122, l32_124, l32_125, l32_255, l32_680, l32_699, l32_700, l32_999, l32_2500, l32_99999, l32_100000, l32_1000000, if_true, if_false, ite_true, ite_false, ce_nm, Option.bind, if_pos, if_neg]; exact z) ?_
    by_cases w0 : W = 0
    · have o0 : olt m W p = 0 := by unfold olt; rw [if_neg (fun q => q.1 w0)]
      refine Ev.pos (by rw [w0]; rfl) (Ev.nm ?_)
      rw [a1, ni_cl (by omega)]
      refine Ev.grd hk ?_
      rw [x_letterAt hk ok h0 td (by omega) (by omega)]
      refine ev_bs ?_
      dsimp only
      by_cases y : tl n len L j p = 0
      · refine Ev.pos (by rw [y]; rfl) (Ev.some ⟨by omega, by omega, ?_⟩)
        rw [if_neg (uq_f (by rw [o0, y]))] at cs
        rw [cs]
        rfl
      · refine Ev.neg (fun q => y (by have q' := q.symm; rw [mm_def, fr_mm (by omega)] at q'; exact q')) (Ev.some ⟨by omega, by omega, ?_⟩)
        rw [if_pos (uq_t (by rw [o0]; omega))] at cs
        rw [cs]
        rfl
    · obtain ⟨w, rfl⟩ : ∃ w, W = w + 1 := ⟨W - 1, by omega⟩
      refine Ev.neg (by rw [fr_s, mm_def, ni_mm (by omega)]; exact id) ?_
      rw [fr_s, x_cletter (nI p) c l (by omega), olt_c on.1 (by omega) (by omega)]
      refine ev_bs (Ev.nm ?_)
      dsimp only
      rw [a1, ni_cl (by omega)]
      refine Ev.grd hk ?_
      rw [x_letterAt hk ok h0 td (by omega) (by omega)]
      refine ev_bs ?_
      dsimp only
      by_cases y : olt m (w + 1) p = tl n len L j p
      · refine Ev.pos (by rw [y]) (Ev.some ⟨by omega, by omega, ?_⟩)
        rw [if_neg (uq_f y)] at cs
        rw [cs]
        rfl
      · refine Ev.neg (by rw [fr_inj (by omega) (by omega)]; exact y) (Ev.some ⟨by omega, by omega, ?_⟩)
        rw [if_pos (uq_t y)] at cs
        rw [cs]
        rfl
/-- the same in the reference -/
theorem x_mun0 {m : Nat → Nat} {kn n j W s l F : Nat} {len L : Nat → Nat} {h : Hp} (on : OkN m) (c : Co h m kn) (mf : MF h m (sM m)) (lm : LtM h n len L) (ok : okL n len L) (hj : j < 20) (hW : W ≤ m 2) (hs : s = if W = 0 then 0 else m (5 + (W - 1))) (hl : l = if j < n then len j else 0) (hF : 1000 ≤ F) : ce_it (fun (st : Int32 × Int32 × Hp) => f12_unlikeOf_b56 F (fr W) (nI j) (nI s) (nI l) st.1 st.2.1 st.2.2) F ((if nI s < nI l then nI l else nI s) - (if nI l < nI s then nI l else nI s), (0 : Int32), h) = some (nI (ct (uq m n len L W j) 4), h) := by
  have h2 := on.1.2.1
  have n12 := ok.1
  have s4 : s ≤ 4 := by
    rw [hs]
    by_cases z : W = 0
    · rw [if_pos z]; omega
    · rw [if_neg z]
      have := on.1.2.2.1 (W - 1) (by omega)
      omega
  have l4 : l ≤ 4 := by
    rw [hl]
    by_cases z : j < n
    · rw [if_pos z]; exact (ok.2.1 j z).1
    · rw [if_neg z]; omega
  have os : ∀ p, olt m W p = if p < s then ltr m (W - 1) p + 1 else 0 := fun p => by
    unfold olt
    by_cases z : W = 0
    · rw [if_neg (fun q => q.1 z), if_neg]
      rw [hs, if_pos z]
      omega
    · rw [if_neg z] at hs
      by_cases y : p < s
      · rw [if_pos y, if_pos ⟨z, by rw [← hs]; exact y⟩]
      · rw [if_neg y, if_neg (fun q => y (by rw [hs]; exact q.2))]
  have ts : ∀ p, tl n len L j p = if p < l then L (4 * j + p) + 1 else 0 := fun p => by
    unfold tl
    by_cases z : j < n
    · rw [if_pos z] at hl
      by_cases y : p < l
      · rw [if_pos y, if_pos ⟨z, by rw [← hl]; exact y⟩]
      · rw [if_neg y, if_neg (fun q => y (by rw [hl]; exact q.2))]
    · rw [if_neg (fun q => z q.1), if_neg]
      rw [hl, if_neg z]
      omega
  have tot : ct (uq m n len L W j) 4 = max s l - min s l + ct (uq m n len L W j) (min s l) := by
    refine ct_mm s4 l4 (fun p p1 p2 => uq_t ?_) (fun p p1 p2 => ?_)
    · rw [os, ts]
      by_cases z : p < s
      · rw [if_pos z, if_neg (by omega)]; omega
      · rw [if_neg z, if_pos (by omega)]; omega
    · have : ¬ uq m n len L W j p = true := uq_f (by rw [os, ts, if_neg (by omega), if_neg (by omega)])
      simpa using this
  rw [ni_max (by omega) (by omega), ni_min (by omega) (by omega), ni_sub (by omega)]
  refine Ev.eq ?_
  refine Ev.it (I := fun p st => p ≤ min s l ∧ st = (nI (max s l - min s l + ct (uq m n len L W j) p), nI p, h)) _ (min s l) ?_ F 0 _ (by omega) (by omega) ⟨by omega, rfl⟩
  rintro p st hp ⟨-, rfl⟩
  show Ev (f12_unlikeOf_b56 F (fr W) (nI j) (nI s) (nI l) (nI (max s l - min s l + ct (uq m n len L W j) p)) (nI p) h) _
  have nxt : nI p + (1 : Int32) = nI (p + 1) := nI_1 _
  have nx0 : nI (max s l - min s l + ct (uq m n len L W j) p) + (0 : Int32) = nI (max s l - min s l + ct (uq m n len L W j) p) := by rw [l32_0, nI_add]; rfl
  have nxb : nI (max s l - min s l + ct (uq m n len L W j) p) + (1 : Int32) = nI (max s l - min s l + ct (uq m n len L W j) p + 1) := nI_1 _
  have cs := ct_s (uq m n len L W j) p
  unfold f12_unlikeOf_b56
  rw [nxt, nx0, nxb]
  by_cases z1 : s ≤ p
  · refine Ev.pos (by rw [ni_le (by omega) (by omega)]; exact z1) (Ev.some ?_)
    rw [tot, show p = min s l by omega]
  · refine Ev.neg (by rw [ni_le (by omega) (by omega)]; exact z1) ?_
    by_cases z2 : l ≤ p
    · refine Ev.pos (by rw [ni_le (by omega) (by omega)]; exact z2) (Ev.some ?_)
      rw [tot, show p = min s l by omega]
    · refine Ev.neg (by rw [ni_le (by omega) (by omega)]; exact z2) ?_
      have w0 : W ≠ 0 := fun q => by rw [if_pos q] at hs; omega
      obtain ⟨w, rfl⟩ : ∃ w, W = w + 1 := ⟨W - 1, by omega⟩
      have jn : j < n := by
        apply Classical.byContradiction
        intro q
        rw [if_neg q] at hl
        omega
      rw [if_pos jn] at hl
      have e4 : ((4 : Int32) * nI j) + nI p = nI (4 * j + p) := by rw [l32_4, ni_mul, nI_add]
      have hv := (lm j jn).2 p (by omega)
      have lb := (ok.2.1 j jn).2.1 p (by omega)
      have lr := ltr_le m w p
      have o1 := os p
      have t1 := ts p
      rw [if_pos (by omega)] at o1 t1
      rw [show w + 1 - 1 = w from rfl] at o1
      rw [fr_s, x_mletter c mf (by omega) (by omega), e4]
      refine ev_bs (Ev.grd (ni_in (by omega) (by omega)) ?_)
      dsimp only
      rw [ni_cl (by omega)]
      by_cases y : ltr m w p = L (4 * j + p)
      · refine Ev.pos (by rw [hv, y]) (Ev.some ⟨by omega, by omega, ?_⟩)
        rw [if_neg (uq_f (by rw [o1, t1, y]))] at cs
        rw [cs]
        rfl
      · refine Ev.neg (by rw [hv, ni_eq (by omega) (by omega)]; exact y) (Ev.some ⟨by omega, by omega, ?_⟩)
        rw [if_pos (uq_t (by rw [o1, t1]; omega))] at cs
        rw [cs]
        rfl
theorem x_munj {m : Nat → Nat} {kn n j W s F : Nat} {len L : Nat → Nat} {h : Hp} (on : OkN m) (c : Co h m kn) (mf : MF h m (sM m)) (lm : LtM h n len L) (h29 : h 68 29 = nI n) (ok : okL n len L) (hj : j < 20) (hW : W ≤ m 2) (hs : s = if W = 0 then 0 else m (5 + (W - 1))) (hF : 1000 ≤ F) : f12_unlikeOf_j17 F (fr W) (nI j) (nI s) h = some (nI (ct (uq m n len L W j) 4), h) := by
  have n12 := ok.1
  refine Ev.eq ?_
  unfold f12_unlikeOf_j17
  by_cases z : n ≤ j
  · refine Ev.pos (by rw [h29, ni_le (by omega) (by omega)]; exact z) ?_
    have e := x_mun0 (l := 0) on c mf lm ok hj hW hs (by rw [if_neg (by omega)]) hF
    refine Ev.bind (P := fun o => o = (nI (ct (uq m n len L W j) 4), h)) (Ev.of e rfl) (fun o ho => by rw [ho]; exact Ev.some rfl)
  · refine Ev.neg (by rw [h29, ni_le (by omega) (by omega)]; exact z) (Ev.grd (ni_in (by omega) (by omega)) ?_)
    have e := x_mun0 (l := len j) on c mf lm ok hj hW hs (by rw [if_pos (by omega)]) hF
    rw [ni_cl (by omega), (lm j (by omega)).1, e]
    exact ev_bs (Ev.some rfl)
theorem x_munl {m : Nat → Nat} {kn n j W F : Nat} {len L : Nat → Nat} {h : Hp} (on : OkN m) (c : Co h m kn) (mf : MF h m (sM m)) (lm : LtM h n len L) (h29 : h 68 29 = nI n) (ok : okL n len L) (hj : j < 20) (hW : W ≤ m 2) (hF : 1000 ≤ F) : f12_unlikeOf F (fr W) (nI j) h = some (nI (ct (uq m n len L W j) 4), h) := by
  have h2 := on.1.2.1
  refine Ev.eq ?_
  unfold f12_unlikeOf
  by_cases z : W = 0
  · refine Ev.pos (by rw [z]; rfl) ?_
    rw [l32_0, x_munj on c mf lm h29 ok hj hW (by rw [if_pos z]) hF]
    exact Ev.some rfl
  · obtain ⟨w, rfl⟩ : ∃ w, W = w + 1 := ⟨W - 1, by omega⟩
    have e5 : (5 : Int32) + fr (w + 1) = nI (5 + w) := by rw [fr_s, l32_5, nI_add]
    refine Ev.neg (by rw [fr_s, mm_def, ni_mm (by omega)]; exact id) ?_
    rw [e5]
    refine Ev.grd (ni_in (by omega) (by omega)) ?_
    rw [ni_cl (by omega), c.2.2.2.1 _ (by omega), x_munj on c mf lm h29 ok hj hW (by rw [if_neg z]; rfl) hF]
    exact Ev.some rfl
theorem OTk.sc {h h' : Hp} {kt n : Nat} {len L : Nat → Nat} (c : OTk h kt n len L) (f : Sc h h') : OTk h' kt n len L := c.eqv (by rw [f.1 0 (by omega)]) (by rw [f.1 0 (by omega)]) (fun q hq => f.1 q (by omega)) (f.2 29 (by omega))
def GdK (K : Hp → Prop) (a b : Hp → Option (Int32 × Hp)) : Prop := ∀ m kn, ∃ V : Int32, (∀ h, Co h m kn → K h → Ev (a h) (fun o => o.1 = V ∧ Sc h o.2)) ∧ ∀ h, Co h m kn → K h → Ev (b h) (fun o => o.1 = V ∧ Sc h o.2)
theorem gd_refK {F : Nat} {x : Int32} {a b A B : Hp → Option (Int32 × Hp)} {K : Hp → Prop} (hK : ∀ h h', K h → Sc h h' → K h') (hF : 1000 ≤ F) (ea : ∀ h, a h = Option.bind (f11_refusalOf F x h) (fun o2 => if o2.1 = 0 then A o2.2 else some (o2.1, o2.2))) (eb : ∀ h, b h = Option.bind (f12_whyNot F x h) (fun o2 => if 0 ≤ o2.1 then B o2.2 else some (o2.1, o2.2)))
    (body : ∀ m kn v r hp, OkN m → x = nI v → Tf m v r hp → ∃ V : Int32, (∀ h, Co h m kn → K h → Liv h m → Ev (A h) (fun o => o.1 = V ∧ Sc h o.2)) ∧ ∀ h, Co h m kn → K h → MF h m (sM m) → Lb h m → Ev (B h) (fun o => o.1 = V ∧ Sc h o.2)) : GdK K a b := by
  intro m kn
  by_cases on : OkN m
  rotate_left
  · exact ⟨0, fun h c _ => absurd c.2.2.1 on, fun h c _ => absurd c.2.2.1 on⟩
  by_cases nx : isN m x = false
  · refine ⟨-2, fun h c _ => ?_, fun h c _ => ?_⟩
    · rw [ea, x_refusal0 c nx]
      exact ev_bs (Ev.neg cn2 (Ev.some ⟨rfl, Sc.refl _⟩))
    · rw [eb, x_whyNot0 c nx]
      exact ev_bs (Ev.neg cn2' (Ev.some ⟨rfl, Sc.refl _⟩))
  · obtain ⟨v, hv, rfl⟩ := isN_ex nx
    by_cases z : sz (og m) v ≤ cb (og m) v
    · refine ⟨mm, fun h c _ => ?_, fun h c _ => ?_⟩
      · rw [ea, x_refusal c hv, if_pos z]
        exact ev_bs (Ev.neg cmm (Ev.some ⟨rfl, Sc.refl _⟩))
      · rw [eb]
        refine Ev.bind (x_whyNot c hv hF) (fun o ho => ?_)
        rw [if_pos z] at ho
        exact Ev.neg (by rw [ho.1]; decide) (Ev.some ⟨ho.1, ho.2.1⟩)
    · obtain ⟨r, hp, tf⟩ := Tf_of on hv z
      obtain ⟨V, v1, v2⟩ := body m kn v r hp on rfl tf
      refine ⟨V, fun h c k => ?_, fun h c k => ?_⟩
      · rw [ea, x_refusal c hv, if_neg z]
        exact ev_bs (Ev.pos rfl (v1 h c k (c.liv hv)))
      · rw [eb]
        refine Ev.bind (x_whyNot c hv hF) (fun o ho => ?_)
        rw [if_neg z] at ho
        refine Ev.pos (by rw [ho.1]; decide) (Ev.mono (v2 o.2 (c.sc ho.2.1) (hK _ _ k ho.2.1) ho.2.2.1 ho.2.2.2) (fun p hp' => ⟨hp'.1, ho.2.1.trans hp'.2⟩))
theorem q_unlike {F kt n : Nat} {len L : Nat → Nat} (hF : 1000 ≤ F) (x : Int32) : GdK (fun h => OTk h kt n len L) (f11_unlike F x) (f12_unlike F x) := by
  refine gd_refK (fun h h' k s => OTk.sc k s) hF (A := fun h => Option.bind (f2_nodesIn F x h) (fun o19 => ce_nm ((o19.2 0 4).toNatClampNeg) (fun k_23 => if ce_isTold k_23 then Option.bind (ce_it (fun (st : Int32 × Int32 × Hp) => f11_unlike_b37 F x (if o19.1 < (o19.2 k_23 0) then (o19.2 k_23 0) else o19.1) st.1 st.2.1 st.2.2) F ((0 : Int32), (0 : Int32), o19.2)) (fun o37 => some (o37.1, o37.2)) else none))) (B := fun h => Option.bind (f12_laysIds F x h) (fun o14 => Option.bind (ce_it (fun (st : Int32 × Int32 × Hp) => f12_unlike_b22 F x st.1 st.2.1 st.2.2) F ((0 : Int32), (0 : Int32), o14)) (fun o22 => some (o22.1, o22.2)))) (fun h => rfl) (fun h => rfl) ?_
  rintro m kn v r hp on rfl tf
  have tf' := tf
  obtain ⟨hv, hr, hc, hR, T, hfi, tr⟩ := tf
  have h2 := on.1.2.1
  have s10 : sz (og m) r ≤ 10 := ct_le _ _
  have esz : sz (og m) r = sz (og m) v := sz_eq on.1.2.2.2.1 hc
  have ndb : ∀ j, j < 20 → ndx m r j ≤ m 2 := fun j hj => by
    by_cases z : j < sz (og m) r
    · obtain ⟨w, w1, w2, w3, w4⟩ := ndx_in on.1 T hr z
      omega
    · rw [ndx_out T (by omega) (by omega)]; omega
  obtain ⟨S, eS⟩ : ∃ S, S = sz (og m) r := ⟨_, rfl⟩
  rw [← eS] at s10
  refine ⟨nI (smu (fun j => ct (uq m n len L (ndx m r j) j) 4) (max S n)), fun h c ot l => ?_, fun h c ot mf lb => ?_⟩
  · have ot' := ot
    obtain ⟨a1, a2, hk, ok, h0, td, h29, lm, tm⟩ := ot
    have bk := told_le hk
    have n12 := ok.1
    rw [x_nodesIn on.1 (c.cs l) hv, ← esz, ← eS]
    refine ev_bs (Ev.nm ?_)
    dsimp only
    rw [a1, ni_cl (by omega)]
    refine Ev.grd hk ?_
    simp only [h0, ni_max (show S < 2147483648 by omega) (show n < 2147483648 by omega)]
    refine Ev.bind (P := fun o => o = (nI (smu (fun j => ct (uq m n len L (ndx m r j) j) 4) (max S n)), h)) ?_ (fun o ho => by rw [ho]; exact Ev.some ⟨rfl, Sc.refl _⟩)
    refine Ev.it (I := fun j st => j ≤ max S n ∧ st = (nI (smu (fun j => ct (uq m n len L (ndx m r j) j) 4) j), nI j, h)) _ (max S n) ?_ F 0 _ (by omega) (by omega) ⟨by omega, rfl⟩
    rintro j st hj ⟨-, rfl⟩
    show Ev (f11_unlike_b37 F (nI v) (nI (max S n)) (nI (smu (fun j => ct (uq m n len L (ndx m r j) j) 4) j)) (nI j) h) _
    have nxt : nI j + (1 : Int32) = nI (j + 1) := nI_1 _
    have ss := smu_s (fun j => ct (uq m n len L (ndx m r j) j) 4) j
    unfold f11_unlike_b37
    rw [nxt]
    by_cases z : max S n ≤ j
    · refine Ev.pos (by rw [ni_le (by omega) (by omega)]; exact z) (Ev.some ?_)
      rw [show j = max S n by omega]
    · refine Ev.neg (by rw [ni_le (by omega) (by omega)]; exact z) ?_
      rw [x_ndx on c l tf' (by omega)]
      refine ev_bs ?_
      dsimp only
      rw [x_cunl on c l ot' (by omega) (ndb j (by omega)) hF]
      refine ev_bs (Ev.some ⟨by omega, by omega, ?_⟩)
      rw [ss]
  · refine Ev.bind (x_laysIds c tf' mf hF) (fun h1 hh => ?_)
    obtain ⟨s1, mf1, lb1, e24, hid⟩ := hh
    have c1 := c.sc s1
    have ot1 := ot.sc s1
    obtain ⟨a1, a2, hk, ok, h0, td, h29, lm, tm⟩ := ot1
    have n12 := ok.1
    rw [← eS] at e24
    refine Ev.bind (P := fun o => o = (nI (smu (fun j => ct (uq m n len L (ndx m r j) j) 4) (max S n)), h1)) ?_ (fun o ho => by rw [ho]; exact Ev.some ⟨rfl, s1⟩)
    refine Ev.it (I := fun j st => j ≤ max S n ∧ st = (nI (smu (fun j => ct (uq m n len L (ndx m r j) j) 4) j), nI j, h1)) _ (max S n) ?_ F 0 _ (by omega) (by omega) ⟨by omega, rfl⟩
    rintro j st hj ⟨-, rfl⟩
    show Ev (f12_unlike_b22 F (nI v) (nI (smu (fun j => ct (uq m n len L (ndx m r j) j) 4) j)) (nI j) h1) _
    have nxt : nI j + (1 : Int32) = nI (j + 1) := nI_1 _
    have ss := smu_s (fun j => ct (uq m n len L (ndx m r j) j) 4) j
    unfold f12_unlike_b22
    rw [nxt, h29, e24, ni_max (by omega) (by omega)]
    by_cases z : max S n ≤ j
    · refine Ev.pos (by rw [ni_le (by omega) (by omega)]; omega) (Ev.some ?_)
      rw [show j = max S n by omega]
    · refine Ev.neg (by rw [ni_le (by omega) (by omega)]; omega) ?_
      by_cases y : S ≤ j
      · refine Ev.pos (by rw [ni_le (by omega) (by omega)]; exact y) ?_
        have e0 : ndx m r j = 0 := ndx_out T (by omega) (by omega)
        have u := x_munl (W := ndx m r j) on c1 mf1 lm h29 ok (show j < 20 by omega) (ndb j (by omega)) hF
        rw [show fr (ndx m r j) = (-1 : Int32) by rw [e0]; rfl] at u
        rw [u]
        refine ev_bs (Ev.some ⟨by omega, by omega, ?_⟩)
        dsimp only
        rw [ss, nI_add]
      · refine Ev.neg (by rw [ni_le (by omega) (by omega)]; exact y) ?_
        have u := x_munl (W := ndx m r j) on c1 mf1 lm h29 ok (show j < 20 by omega) (ndb j (by omega)) hF
        rw [x_withId (nI j) on.1 c1.2.2.2.1 lb1 T hv hc hid hF]
        refine ev_bs ?_
        dsimp only
        rw [show fi (fun w => bo (Cn (og m) r w ∧ nI j = fr (ids (og m) (Pf m (sM m)) r w))) (m 2) = ndx m r j from rfl, u]
        refine ev_bs (Ev.some ⟨by omega, by omega, ?_⟩)
        dsimp only
        rw [ss, nI_add]
