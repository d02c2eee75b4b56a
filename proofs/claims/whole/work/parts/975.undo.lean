-- acts and snapshots; undo, anew
def ActR (h : Hp) (i : Nat) (a b : Nat → Nat) : Prop := (∃ e, e < 40 ∧ h 36 i = nI 0 ∧ h 37 i = nI e ∧ og b e ≠ 0 ∧ Pg a b e) ∨ (∃ e, e < 40 ∧ h 36 i = nI 1 ∧ h 37 i = nI e ∧ h 38 i = nI (og a e - 1) ∧ h 39 i = nI (a (85 + e)) ∧ og a e ≠ 0 ∧ Pg b a e) ∨ ∃ v, v < a 2 ∧ h 36 i = nI 2 ∧ h 37 i = nI v ∧ a (15 + v) + b (15 + v) = 1 ∧ ∀ j, j ≠ 4 → j ≠ 15 + v → a j = b j
def Ch (h : Hp) (m : Nat → Nat) (ms : Nat → Nat → Nat) : Prop := h 35 0 = nI (m 4) ∧ ms (m 4) = m ∧ ∀ i, i < m 4 → OkN (ms i) ∧ ms i 4 = i ∧ ms i 3 = m 3 ∧ ActR h i (ms i) (ms (i + 1))
def Ps (h : Hp) (m : Nat → Nat) (ms : Nat → Nat → Nat) : Prop := ∀ i, i < m 4 → ∀ j, j < 125 → h 71 (125 * i + j) = nI (ms i j)
def RA (h : Hp) (m : Nat → Nat) (kn : Nat) (ms : Nat → Nat → Nat) : Prop := Co h m kn ∧ Ch h m ms ∧ Ps h m ms
def Fx (h h' : Hp) : Prop := ∀ c, (c < 7 ∨ (20 < c ∧ c < 35) ∨ c = 68 ∨ c = 72 ∨ c = 86 ∨ c = 87 ∨ c = 90 ∨ c = 91 ∨ c = 92) → h' c = h c
theorem Fx.refl (h : Hp) : Fx h h := fun _ _ => rfl
theorem Fx.trans {h1 h2 h3 : Hp} (a : Fx h1 h2) (b : Fx h2 h3) : Fx h1 h3 := fun c hc => (b c hc).trans (a c hc)
theorem NetR.eqv' {h h' : Hp} {k : Nat} {m : Nat → Nat} (hk : ce_isNet k) (c : NetR h k m) (f : ∀ q, k ≤ q → q ≤ k + 6 → h' q = h q) : NetR h' k m := by
  have b := net_le hk
  obtain ⟨⟨b1, b2, b3, b4, b5⟩, a2, a3, a4, a5, a6⟩ := c
  exact ⟨⟨by rw [f _ (by omega) (by omega)]; exact b1, by rw [f _ (by omega) (by omega)]; exact b2, fun v hv => by rw [f _ (by omega) (by omega)]; exact b3 v hv, fun e he => by rw [f _ (by omega) (by omega)]; exact b4 e he, fun e he h0 => by rw [f _ (by omega) (by omega)]; exact b5 e he h0⟩, by rw [f _ (by omega) (by omega)]; exact a2, by rw [f _ (by omega) (by omega)]; exact a3, by rw [f _ (by omega) (by omega)]; exact a4, fun v hv => by rw [f _ (by omega) (by omega)]; exact a5 v hv, fun v hv => by rw [f (k + 4) (by omega) (by omega), f (k + 3) (by omega) (by omega)]; exact a6 v hv⟩
theorem vpn1 : vp_nar .boolean (1 : Int32) = nI 1 := by decide
theorem vpn0 : vp_nar .boolean (0 : Int32) = nI 0 := by decide
/-- the class's cells of an act and of the net alone -/
def Ft (kn : Nat) (h h' : Hp) : Prop := ∀ c, c ≠ 35 → (c < kn ∨ kn + 6 < c) → h' c = h c
theorem x_takeBack {a b : Nat → Nat} {kn i F : Nat} {h : Hp} (hkn : ce_isNet kn) (ona : OkN a) (onb : OkN b) (nr : NetR h kn b) (h35 : h 35 0 = nI (i + 1)) (hi : i < 20) (ar : ActR h i a b) (hF : 1000 ≤ F) : Ev (f0_takeBack F kn h) (fun h' => Ft kn h h' ∧ h' 35 0 = nI i ∧ NetR h' kn a) := by
  have bn := net_le hkn
  have e1 : nI (i + 1) - (1 : Int32) = nI i := by rw [l32_1, ni_sub1 (by omega)]; rfl
  unfold f0_takeBack
  refine Ev.neg (by rw [h35]; simp (disch := omega) only [up_s, up_k, up_j, mm_neg, mm_def, ni_lt, ni_le, ni_eq, ni_mm, mm_ni, ni_lt_mm, ni_le_mm, mm_lt_ni, mm_le_ni, mm_lt_mm, mm_le_mm, ni_cl, ni_in, nI_add, ni_mul, ni_div, ni_rem, ni_rem2, fr_sub, fr_mm, fr_ge0, fr_lt0, fr_inj, l32_0, l32_1, l32_2, l32_3, l32_4, l32_5, l32_6, l32_7, l32_8, l32_9, l32_10, l32_11, l32_12, l32_13, l32_14, l32_15, l32_16, l32_20, l32_24, l32_25, l32_26, l32_31, l32_32, l32_34, l32_35, l32_39, l32_40, l32_44, l32_45, l32_46, l32_47, l32_48, l32_49, l32_57, l32_58, l32_59, l32_63, l32_64, l32_85, l32_90, l32_97, l32_99, l32_100, l32_110, l32_112, l32_122, l32_124, l32_125, l32_255, l32_680, l32_699, l32_700, l32_999, l32_2500, l32_99999, l32_100000, l32_1000000, if_true, if_false, ite_true, ite_false, ce_nm, Option.bind, if_pos, if_neg]; omega) (Ev.nm ?_)
  rw [h35, e1]
  obtain ⟨h1, eh1⟩ : ∃ h1, h1 = hp_up h 35 0 (nI i) := ⟨_, rfl⟩
  rw [← eh1]
  have k1 : ∀ c, c ≠ 35 → h1 c = h c := fun c hc => by rw [eh1]; exact up_kk _ _ _ _ _ hc
  have h35' : h1 35 0 = nI i := by rw [eh1, up_s]
  have nr1 : NetR h1 kn b := NetR.eqv' hkn nr (fun q q1 q2 => k1 q (by omega))
  have c20 : ce_in (h1 35 0) 20 = true := by rw [h35']; exact ni_in (by omega) hi
  have sl : (h1 35 0).toNatClampNeg = i := by rw [h35', ni_cl (by omega)]
  refine Ev.grd c20 (Ev.grd c20 ?_)
  rw [sl, k1 36 (by omega), k1 37 (by omega), k1 38 (by omega), k1 39 (by omega)]
  rcases ar with ⟨e, he, a1, a2, a3, p⟩ | ⟨e, he, a1, a2, a3, a4, a5, p⟩ | ⟨v, hv, a1, a2, a3, a4⟩
  · refine Ev.pos (by rw [a1]; rfl) ?_
    rw [a2]
    exact Ev.bind (x_unlink nr1 onb.1 he a3 p) (fun h2 hh => Ev.some ⟨fun c q1 q2 => by rw [hh.1.1 c (by omega) (by omega) (by omega)]; exact k1 c q1, by rw [hh.1.1 35 (by omega) (by omega) (by omega)]; exact h35', hh.2⟩)
  · refine Ev.neg (by rw [a1]; decide) (Ev.grd c20 (Ev.pos (by rw [a1]; rfl) (Ev.grd c20 (Ev.grd c20 ?_))))
    rw [a2, a3, a4]
    exact Ev.bind (x_link nr1 ona.1 he a5 p rfl) (fun h2 hh => Ev.some ⟨fun c q1 q2 => by rw [hh.1.1 c (by omega) (by omega) (by omega)]; exact k1 c q1, by rw [hh.1.1 35 (by omega) (by omega) (by omega)]; exact h35', hh.2⟩)
  · have a2e : a 2 = b 2 := a4 2 (by omega) (by omega)
    have ha2 := ona.1.2.1
    have hvb : v < b 2 := by omega
    refine Ev.neg (by rw [a1]; decide) (Ev.grd c20 (Ev.neg (by rw [a1]; decide) ?_))
    rw [a2, x_hasNode (m := b) _ (by omega) nr1.1.2.1, isN_t hvb]
    refine ev_bs (Ev.neg (by decide : ¬ (nI 1 : Int32) = 0) (Ev.grd (ni_in (by omega) (by omega)) ?_))
    dsimp only
    rw [ni_cl (by omega)]
    have fin : ∀ x : Nat, x = a (15 + v) → Ft kn h (hp_up h1 (kn + 2) v (nI x)) ∧ (hp_up h1 (kn + 2) v (nI x)) 35 0 = nI i ∧ NetR (hp_up h1 (kn + 2) v (nI x)) kn a := fun x hx => by
      refine ⟨fun c q1 q2 => by rw [up_kk _ _ _ _ _ (by omega)]; exact k1 c q1, by rw [up_k _ _ _ _ _ _ (by omega)]; exact h35', ?_⟩
      obtain ⟨⟨c1, c2, c3, c4, c5⟩, n0, n1, n4, n2, cc⟩ := nr1
      have oe : og a = og b := funext (fun e => a4 (45 + e) (by omega) (by omega))
      refine ⟨⟨?_, ?_, fun u hu => ?_, fun e he => ?_, fun e he q => ?_⟩, ?_, ?_, ?_, fun u hu => ?_, fun u hu => ?_⟩
      · rw [up_k _ _ _ _ _ _ (by omega), a4 1 (by omega) (by omega)]; exact c1
      · rw [up_k _ _ _ _ _ _ (by omega), a2e]; exact c2
      · rw [up_k _ _ _ _ _ _ (by omega), a4 (5 + u) (by omega) (by omega)]; exact c3 u (by omega)
      · rw [up_k _ _ _ _ _ _ (by omega), oe]; exact c4 e he
      · rw [oe] at q
        rw [up_k _ _ _ _ _ _ (by omega), a4 (85 + e) (by omega) (by omega)]; exact c5 e he q
      · rw [up_k _ _ _ _ _ _ (by omega), a4 3 (by omega) (by omega)]; exact n0
      · rw [up_k _ _ _ _ _ _ (by omega), a4 0 (by omega) (by omega)]; exact n1
      · rw [up_k _ _ _ _ _ _ (by omega), oe]; exact n4
      · by_cases z : u = v
        · rw [z, up_s, hx]
        · rw [up_j _ _ _ _ _ z, a4 (15 + u) (by omega) (by omega)]; exact n2 u (by omega)
      · rw [up_k _ _ _ _ _ _ (by omega), up_kk _ _ _ _ _ (by omega : kn + 3 ≠ kn + 2), a4 (25 + u) (by omega) (by omega), a4 (35 + u) (by omega) (by omega)]
        exact cc u (by omega)
    have n2v := nr1.2.2.2.2.1 v hvb
    by_cases z : b (15 + v) = 0
    · refine Ev.pos (by rw [n2v, z]; rfl) (Ev.grd (ni_in (by omega) (by omega)) (Ev.nm (Ev.some ?_)))
      rw [vpn1]
      exact fin 1 (by omega)
    · refine Ev.neg (by rw [n2v, l32_0, ni_eq (by omega) (by omega)]; exact z) (Ev.grd (ni_in (by omega) (by omega)) (Ev.nm (Ev.some ?_)))
      rw [vpn0]
      exact fin 0 (by omega)
theorem x_goesBack {m : Nat → Nat} {i F : Nat} {h : Hp} (hi : i < 20) (hp : ∀ j, j < 125 → h 71 (125 * i + j) = nI (m j)) (hF : 1000 ≤ F) : Ev (f12_goesBack F (nI i) h) (fun h' => (∀ c, c ≠ 69 → h' c = h c) ∧ MN h' m) := by
  unfold f12_goesBack
  refine Ev.bind (P := fun h' => (∀ c, c ≠ 69 → h' c = h c) ∧ MN h' m) ?_ (fun r hr => Ev.some hr)
  refine Ev.it (I := fun j st => st.1 = nI j ∧ (∀ c, c ≠ 69 → st.2 c = h c) ∧ ∀ q, q < j → st.2 69 q = nI (m q)) _ 125 ?_ F 0 _ (by omega) (by omega) ⟨rfl, fun _ _ => rfl, fun q hq => absurd hq (by omega)⟩
  rintro j ⟨x, h1⟩ hj hI
  obtain ⟨rfl, f1, b1⟩ : x = nI j ∧ (∀ c, c ≠ 69 → h1 c = h c) ∧ ∀ q, q < j → h1 69 q = nI (m q) := hI
  show Ev (f12_goesBack_b2 F (nI i) (nI j) h1) _
  unfold f12_goesBack_b2
  by_cases hin : 125 ≤ j
  · exact Ev.pos (by simp (disch := omega) only [up_s, up_k, up_j, mm_neg, mm_def, ni_lt, ni_le, ni_eq, ni_mm, mm_ni, ni_lt_mm, ni_le_mm, mm_lt_ni, mm_le_ni, mm_lt_mm, mm_le_mm, ni_cl, ni_in, nI_add, ni_mul, ni_div, ni_rem, ni_rem2, fr_sub, fr_mm, fr_ge0, fr_lt0, fr_inj, l32_0, l32_1, l32_2, l32_3, l32_4, l32_5, l32_6, l32_7, l32_8, l32_9, l32_10, l32_11, l32_12, l32_13, l32_14, l32_15, l32_16, l32_20, l32_24, l32_25, l32_26, l32_31, l32_32, l32_34, l32_35, l32_39, l32_40, l32_44, l32_45, l32_46, l32_47, l32_48, l32_49, l32_57, l32_58, l32_59, l32_63, l32_64, l32_85, l32_90, l32_97, l32_99, l32_100, l32_110, l32_112, l32_122, l32_124, l32_125, l32_255, l32_680, l32_699, l32_700, l32_999, l32_2500, l32_99999, l32_100000, l32_1000000, if_true, if_false, ite_true, ite_false, ce_nm, Option.bind, if_pos, if_neg]; exact hin) (Ev.some ⟨f1, fun q hq => b1 q (by omega)⟩)
  · have e1 : (125 : Int32) * nI i + nI j = nI (125 * i + j) := by rw [l32_125, ni_mul, nI_add]
    refine Ev.neg (by simp (disch := omega) only [up_s, up_k, up_j, mm_neg, mm_def, ni_lt, ni_le, ni_eq, ni_mm, mm_ni, ni_lt_mm, ni_le_mm, mm_lt_ni, mm_le_ni, mm_lt_mm, mm_le_mm, ni_cl, ni_in, nI_add, ni_mul, ni_div, ni_rem, ni_rem2, fr_sub, fr_mm, fr_ge0, fr_lt0, fr_inj, l32_0, l32_1, l32_2, l32_3, l32_4, l32_5, l32_6, l32_7, l32_8, l32_9, l32_10, l32_11, l32_12, l32_13, l32_14, l32_15, l32_16, l32_20, l32_24, l32_25, l32_26, l32_31, l32_32, l32_34, l32_35, l32_39, l32_40, l32_44, l32_45, l32_46, l32_47, l32_48, l32_49, l32_57, l32_58, l32_59, l32_63, l32_64, l32_85, l32_90, l32_97, l32_99, l32_100, l32_110, l32_112, l32_122, l32_124, l32_125, l32_255, l32_680, l32_699, l32_700, l32_999, l32_2500, l32_99999, l32_100000, l32_1000000, if_true, if_false, ite_true, ite_false, ce_nm, Option.bind, if_pos, if_neg]; exact hin) ?_
    rw [e1]
    refine Ev.grd (ni_in (by omega) (by omega)) (Ev.grd (ni_in (by omega) (by omega)) (Ev.nm (Ev.some ⟨by omega, nI_1 j, fun c hc => ?_, fun q hq => ?_⟩)))
    · dsimp only; rw [up_kk _ _ _ _ _ hc]; exact f1 c hc
    · dsimp only
      rw [ni_cl (by omega), ni_cl (by omega)]
      by_cases z : q = j
      · rw [z, up_s, f1 71 (by omega)]; exact hp j (by omega)
      · rw [up_j _ _ _ _ _ z]; exact b1 q (by omega)
theorem ActR.eqv {h h' : Hp} {i : Nat} {a b : Nat → Nat} (r : ActR h i a b) (f : ∀ c, 36 ≤ c → c ≤ 39 → h' c = h c) : ActR h' i a b := by
  unfold ActR at r ⊢
  rw [f 36 (by omega) (by omega), f 37 (by omega) (by omega), f 38 (by omega) (by omega), f 39 (by omega) (by omega)]
  exact r
/-- both do an act -/
def Ac (a b : Hp → Option (Int32 × Hp)) : Prop := ∀ h m kn ms, RA h m kn ms → Ev (a h) (fun o => Ev (b o.2) (fun p => o.1 = p.1 ∧ Fx h p.2 ∧ ∃ m' ms', RA p.2 m' kn ms'))
theorem RA_back {m : Nat → Nat} {kn i : Nat} {ms : Nat → Nat → Nat} {h h1 h2 h3 : Hp} (ra : RA h m kn ms) (hi : i ≤ m 4) (ft : Ft kn h h1) (h35 : h1 35 0 = nI i) (nr1 : NetR h1 kn (ms i)) (f2 : ∀ c, c < 40 ∨ 64 < c → h2 c = h1 c) (lv : Liv h2 (ms i)) (f3 : ∀ c, c ≠ 69 → h3 c = h2 c) (mn3 : MN h3 (ms i)) : RA h3 (ms i) kn ms ∧ Fx h h3 := by
  obtain ⟨co, ch', ps⟩ := ra
  have b := net_le co.2.1
  have facts : OkN (ms i) ∧ ms i 4 = i ∧ ms i 3 = m 3 := by
    by_cases q : i = m 4
    · rw [q, ch'.2.1]; exact ⟨co.2.2.1, rfl, rfl⟩
    · obtain ⟨t1, t2, t3, t4⟩ := ch'.2.2 i (by omega)
      exact ⟨t1, t2, t3⟩
  obtain ⟨oni, i4, i3⟩ := facts
  have low : ∀ c, c < 40 ∨ (64 < c ∧ c ≠ 69) → h3 c = h1 c := fun c hc => by rw [f3 c (by omega), f2 c (by omega)]
  refine ⟨⟨⟨by rw [low 0 (by omega), ft 0 (by omega) (by omega)]; exact co.1, co.2.1, oni, mn3, NetR.eqv co.2.1 nr1 (fun q hq => low q (by omega)), Or.inr (lv.eqv (fun q hq => f3 q (by omega)))⟩, ⟨by rw [low 35 (by omega), h35, i4], by rw [i4], fun j hj => ?_⟩, fun j hj q hq => ?_⟩, fun c hc => ?_⟩
  · rw [i4] at hj
    obtain ⟨t1, t2, t3, t4⟩ := ch'.2.2 j (by omega)
    exact ⟨t1, t2, by rw [t3, i3], t4.eqv (fun c c1 c2 => by rw [low c (by omega), ft c (by omega) (by omega)])⟩
  · rw [i4] at hj
    rw [low 71 (by omega), ft 71 (by omega) (by omega)]
    exact ps j (by omega) q hq
  · rw [low c (by omega), ft c (by omega) (by omega)]
theorem q_undo {F : Nat} (hF : 1000 ≤ F) : Ac (f11_undo F) (f12_undo F) := by
  rintro h m kn ms ⟨co, ch', ps⟩
  have on := co.2.2.1
  have b := net_le co.2.1
  have m3b := on.2.2.2.2.1
  have m4b := on.2.2.2.2.2.1
  have n1 : ¬ (nI 1 : Int32) = 0 := by decide
  unfold f11_undo
  refine Ev.nm ?_
  rw [co.1, ni_cl (by omega)]
  refine Ev.grd co.2.1 ?_
  have l0 : h kn 0 = nI (m 3) := co.2.2.2.2.1.2.1
  by_cases z3 : m 3 = 0
  · refine Ev.pos (by rw [l0, z3]; rfl) (Ev.some ?_)
    unfold f12_undo
    rw [x_is co.2.2.2.1 m3b, if_pos z3]
    exact ev_bs (Ev.pos rfl (Ev.some ⟨rfl, Fx.refl _, m, ms, co, ch', ps⟩))
  · refine Ev.neg (by rw [l0]; simp (disch := omega) only [up_s, up_k, up_j, mm_neg, mm_def, ni_lt, ni_le, ni_eq, ni_mm, mm_ni, ni_lt_mm, ni_le_mm, mm_lt_ni, mm_le_ni, mm_lt_mm, mm_le_mm, ni_cl, ni_in, nI_add, ni_mul, ni_div, ni_rem, ni_rem2, fr_sub, fr_mm, fr_ge0, fr_lt0, fr_inj, l32_0, l32_1, l32_2, l32_3, l32_4, l32_5, l32_6, l32_7, l32_8, l32_9, l32_10, l32_11, l32_12, l32_13, l32_14, l32_15, l32_16, l32_20, l32_24, l32_25, l32_26, l32_31, l32_32, l32_34, l32_35, l32_39, l32_40, l32_44, l32_45, l32_46, l32_47, l32_48, l32_49, l32_57, l32_58, l32_59, l32_63, l32_64, l32_85, l32_90, l32_97, l32_99, l32_100, l32_110, l32_112, l32_122, l32_124, l32_125, l32_255, l32_680, l32_699, l32_700, l32_999, l32_2500, l32_99999, l32_100000, l32_1000000, if_true, if_false, ite_true, ite_false, ce_nm, Option.bind, if_pos, if_neg]; exact z3) ?_
    have e4 : ∀ h', MN h' m → h' 69 ((4 : Int32)).toNatClampNeg = nI (m 4) := fun h' c => c 4 (by omega)
    by_cases z4 : m 4 = 0
    · refine Ev.pos (by rw [ch'.1, z4]; rfl) (Ev.some ?_)
      unfold f12_undo
      rw [x_is co.2.2.2.1 m3b, if_neg z3]
      exact ev_bs (Ev.neg n1 (Ev.pos (by dsimp only; rw [e4 h co.2.2.2.1, z4]; rfl) (Ev.some ⟨rfl, Fx.refl _, m, ms, co, ch', ps⟩)))
    · obtain ⟨i, hi⟩ : ∃ i, m 4 = i + 1 := ⟨m 4 - 1, by omega⟩
      obtain ⟨oni, i4, i3, ar⟩ := ch'.2.2 i (by omega)
      rw [show ms (i + 1) = m by rw [← hi]; exact ch'.2.1] at ar
      refine Ev.neg (by rw [ch'.1]; simp (disch := omega) only [up_s, up_k, up_j, mm_neg, mm_def, ni_lt, ni_le, ni_eq, ni_mm, mm_ni, ni_lt_mm, ni_le_mm, mm_lt_ni, mm_le_ni, mm_lt_mm, mm_le_mm, ni_cl, ni_in, nI_add, ni_mul, ni_div, ni_rem, ni_rem2, fr_sub, fr_mm, fr_ge0, fr_lt0, fr_inj, l32_0, l32_1, l32_2, l32_3, l32_4, l32_5, l32_6, l32_7, l32_8, l32_9, l32_10, l32_11, l32_12, l32_13, l32_14, l32_15, l32_16, l32_20, l32_24, l32_25, l32_26, l32_31, l32_32, l32_34, l32_35, l32_39, l32_40, l32_44, l32_45, l32_46, l32_47, l32_48, l32_49, l32_57, l32_58, l32_59, l32_63, l32_64, l32_85, l32_90, l32_97, l32_99, l32_100, l32_110, l32_112, l32_122, l32_124, l32_125, l32_255, l32_680, l32_699, l32_700, l32_999, l32_2500, l32_99999, l32_100000, l32_1000000, if_true, if_false, ite_true, ite_false, ce_nm, Option.bind, if_pos, if_neg]; exact z4) (Ev.nm (Ev.grd co.2.1 (Ev.bind (x_takeBack co.2.1 oni on co.2.2.2.2.1 (by rw [ch'.1, hi]) (by omega) ar hF) (fun h1 hh1 => ?_))))
      obtain ⟨ft, h35, nr1⟩ := hh1
      refine Ev.bind (x_refresh (by rw [ft 0 (by omega) (by omega)]; exact co.1) co.2.1 oni nr1 hF) (fun h2 hh2 => Ev.some ?_)
      obtain ⟨f2, lv⟩ := hh2
      have keep : ∀ c, 64 < c → h2 c = h c := fun c hc => by rw [f2 c (by omega), ft c (by omega) (by omega)]
      have mn2 : MN h2 m := fun j hj => by rw [keep 69 (by omega)]; exact co.2.2.2.1 j hj
      dsimp only
      unfold f12_undo
      rw [x_is mn2 m3b, if_neg z3]
      refine ev_bs (Ev.neg n1 (Ev.neg (by dsimp only; rw [e4 h2 mn2]; simp (disch := omega) only [up_s, up_k, up_j, mm_neg, mm_def, ni_lt, ni_le, ni_eq, ni_mm, mm_ni, ni_lt_mm, ni_le_mm, mm_lt_ni, mm_le_ni, mm_lt_mm, mm_le_mm, ni_cl, ni_in, nI_add, ni_mul, ni_div, ni_rem, ni_rem2, fr_sub, fr_mm, fr_ge0, fr_lt0, fr_inj, l32_0, l32_1, l32_2, l32_3, l32_4, l32_5, l32_6, l32_7, l32_8, l32_9, l32_10, l32_11, l32_12, l32_13, l32_14, l32_15, l32_16, l32_20, l32_24, l32_25, l32_26, l32_31, l32_32, l32_34, l32_35, l32_39, l32_40, l32_44, l32_45, l32_46, l32_47, l32_48, l32_49, l32_57, l32_58, l32_59, l32_63, l32_64, l32_85, l32_90, l32_97, l32_99, l32_100, l32_110, l32_112, l32_122, l32_124, l32_125, l32_255, l32_680, l32_699, l32_700, l32_999, l32_2500, l32_99999, l32_100000, l32_1000000, if_true, if_false, ite_true, ite_false, ce_nm, Option.bind, if_pos, if_neg]; exact z4) ?_))
      dsimp only
      rw [e4 h2 mn2, hi, show nI (i + 1) - (1 : Int32) = nI i by rw [l32_1, ni_sub1 (by omega)]; rfl]
      refine Ev.bind (x_goesBack (m := ms i) (by omega) (fun j hj => by rw [keep 71 (by omega)]; exact ps i (by omega) j hj) hF) (fun h3 hh3 => Ev.some ?_)
      obtain ⟨ra, fx⟩ := RA_back ⟨co, ch', ps⟩ (by omega) ft h35 nr1 f2 lv hh3.1 hh3.2
      refine ⟨?_, fx, ms i, ms, ra⟩
      dsimp only
      rw [f2 35 (by omega), h35]
      have : h3 69 ((4 : Int32)).toNatClampNeg = nI (ms i 4) := hh3.2 4 (by omega)
      rw [this, i4]
theorem q_anew {F : Nat} (hF : 1000 ≤ F) : Ac (f11_anew F) (f12_anew F) := by
  rintro h m kn ms ⟨co, ch', ps⟩
  have on := co.2.2.1
  have b := net_le co.2.1
  have m3b := on.2.2.2.2.1
  have m4b := on.2.2.2.2.2.1
  have n1 : ¬ (nI 1 : Int32) = 0 := by decide
  unfold f11_anew
  refine Ev.nm ?_
  rw [co.1, ni_cl (by omega)]
  refine Ev.grd co.2.1 ?_
  have l0 : h kn 0 = nI (m 3) := co.2.2.2.2.1.2.1
  have e4 : ∀ h', MN h' m → h' 69 ((4 : Int32)).toNatClampNeg = nI (m 4) := fun h' c => c 4 (by omega)
  by_cases z3 : m 3 = 0
  · refine Ev.pos (by rw [l0, z3]; rfl) (Ev.some ?_)
    unfold f12_anew
    rw [x_is co.2.2.2.1 m3b, if_pos z3]
    exact ev_bs (Ev.pos rfl (Ev.some ⟨rfl, Fx.refl _, m, ms, co, ch', ps⟩))
  · refine Ev.neg (by rw [l0]; simp (disch := omega) only [up_s, up_k, up_j, mm_neg, mm_def, ni_lt, ni_le, ni_eq, ni_mm, mm_ni, ni_lt_mm, ni_le_mm, mm_lt_ni, mm_le_ni, mm_lt_mm, mm_le_mm, ni_cl, ni_in, nI_add, ni_mul, ni_div, ni_rem, ni_rem2, fr_sub, fr_mm, fr_ge0, fr_lt0, fr_inj, l32_0, l32_1, l32_2, l32_3, l32_4, l32_5, l32_6, l32_7, l32_8, l32_9, l32_10, l32_11, l32_12, l32_13, l32_14, l32_15, l32_16, l32_20, l32_24, l32_25, l32_26, l32_31, l32_32, l32_34, l32_35, l32_39, l32_40, l32_44, l32_45, l32_46, l32_47, l32_48, l32_49, l32_57, l32_58, l32_59, l32_63, l32_64, l32_85, l32_90, l32_97, l32_99, l32_100, l32_110, l32_112, l32_122, l32_124, l32_125, l32_255, l32_680, l32_699, l32_700, l32_999, l32_2500, l32_99999, l32_100000, l32_1000000, if_true, if_false, ite_true, ite_false, ce_nm, Option.bind, if_pos, if_neg]; exact z3) ?_
    rw [ch'.1]
    refine Ev.bind (P := fun h1 => Ft kn h h1 ∧ h1 35 0 = nI 0 ∧ NetR h1 kn (ms 0)) ?_ (fun h1 hh1 => ?_)
    · refine Ev.it (I := fun i st => st.1 = nI i ∧ Ft kn h st.2 ∧ st.2 35 0 = nI (m 4 - i) ∧ NetR st.2 kn (ms (m 4 - i))) _ (m 4) ?_ F 0 _ (by omega) (by omega) ⟨rfl, fun _ _ _ => rfl, ch'.1, by rw [Nat.sub_zero, ch'.2.1]; exact co.2.2.2.2.1⟩
      rintro i ⟨x, h1⟩ hi hI
      obtain ⟨rfl, ft, h35, nr1⟩ : x = nI i ∧ Ft kn h h1 ∧ h1 35 0 = nI (m 4 - i) ∧ NetR h1 kn (ms (m 4 - i)) := hI
      show Ev (f11_anew_b23 F (nI (m 4)) (nI i) h1) _
      unfold f11_anew_b23
      by_cases hin : m 4 ≤ i
      · have : m 4 - i = 0 := by omega
        rw [this] at h35 nr1
        exact Ev.pos (by simp (disch := omega) only [up_s, up_k, up_j, mm_neg, mm_def, ni_lt, ni_le, ni_eq, ni_mm, mm_ni, ni_lt_mm, ni_le_mm, mm_lt_ni, mm_le_ni, mm_lt_mm, mm_le_mm, ni_cl, ni_in, nI_add, ni_mul, ni_div, ni_rem, ni_rem2, fr_sub, fr_mm, fr_ge0, fr_lt0, fr_inj, l32_0, l32_1, l32_2, l32_3, l32_4, l32_5, l32_6, l32_7, l32_8, l32_9, l32_10, l32_11, l32_12, l32_13, l32_14, l32_15, l32_16, l32_20, l32_24, l32_25, l32_26, l32_31, l32_32, l32_34, l32_35, l32_39, l32_40, l32_44, l32_45, l32_46, l32_47, l32_48, l32_49, l32_57, l32_58, l32_59, l32_63, l32_64, l32_85, l32_90, l32_97, l32_99, l32_100, l32_110, l32_112, l32_122, l32_124, l32_125, l32_255, l32_680, l32_699, l32_700, l32_999, l32_2500, l32_99999, l32_100000, l32_1000000, if_true, if_false, ite_true, ite_false, ce_nm, Option.bind, if_pos, if_neg]; exact hin) (Ev.some ⟨ft, h35, nr1⟩)
      · obtain ⟨k, hk⟩ : ∃ k, m 4 - i = k + 1 := ⟨m 4 - i - 1, by omega⟩
        rw [hk] at h35 nr1
        obtain ⟨onk, k4, k3, ar⟩ := ch'.2.2 k (by omega)
        have onk1 : OkN (ms (k + 1)) := by
          by_cases q : k + 1 = m 4
          · rw [q, ch'.2.1]; exact on
          · exact (ch'.2.2 (k + 1) (by omega)).1
        refine Ev.neg (by simp (disch := omega) only [up_s, up_k, up_j, mm_neg, mm_def, ni_lt, ni_le, ni_eq, ni_mm, mm_ni, ni_lt_mm, ni_le_mm, mm_lt_ni, mm_le_ni, mm_lt_mm, mm_le_mm, ni_cl, ni_in, nI_add, ni_mul, ni_div, ni_rem, ni_rem2, fr_sub, fr_mm, fr_ge0, fr_lt0, fr_inj, l32_0, l32_1, l32_2, l32_3, l32_4, l32_5, l32_6, l32_7, l32_8, l32_9, l32_10, l32_11, l32_12, l32_13, l32_14, l32_15, l32_16, l32_20, l32_24, l32_25, l32_26, l32_31, l32_32, l32_34, l32_35, l32_39, l32_40, l32_44, l32_45, l32_46, l32_47, l32_48, l32_49, l32_57, l32_58, l32_59, l32_63, l32_64, l32_85, l32_90, l32_97, l32_99, l32_100, l32_110, l32_112, l32_122, l32_124, l32_125, l32_255, l32_680, l32_699, l32_700, l32_999, l32_2500, l32_99999, l32_100000, l32_1000000, if_true, if_false, ite_true, ite_false, ce_nm, Option.bind, if_pos, if_neg]; exact hin) (Ev.nm ?_)
        rw [ft 0 (by omega) (by omega), co.1, ni_cl (by omega)]
        refine Ev.grd co.2.1 (Ev.bind (x_takeBack co.2.1 onk onk1 nr1 h35 (by omega) (ar.eqv (fun c c1 c2 => ft c (by omega) (by omega))) hF) (fun h2 hh2 => Ev.some ⟨by omega, nI_1 i, fun c q1 q2 => ?_, ?_, ?_⟩))
        · dsimp only; rw [hh2.1 c q1 q2]; exact ft c q1 q2
        · dsimp only; rw [show m 4 - (i + 1) = k by omega]; exact hh2.2.1
        · dsimp only; rw [show m 4 - (i + 1) = k by omega]; exact hh2.2.2
    · obtain ⟨ft, h35, nr1⟩ := hh1
      have on0 : OkN (ms 0) := by
        by_cases q : 0 = m 4
        · rw [q, ch'.2.1]; exact on
        · exact (ch'.2.2 0 (by omega)).1
      refine Ev.bind (x_refresh (by rw [ft 0 (by omega) (by omega)]; exact co.1) co.2.1 on0 nr1 hF) (fun h2 hh2 => Ev.some ?_)
      obtain ⟨f2, lv⟩ := hh2
      have keep : ∀ c, 64 < c → h2 c = h c := fun c hc => by rw [f2 c (by omega), ft c (by omega) (by omega)]
      have mn2 : MN h2 m := fun j hj => by rw [keep 69 (by omega)]; exact co.2.2.2.1 j hj
      dsimp only
      unfold f12_anew
      rw [x_is mn2 m3b, if_neg z3]
      refine ev_bs (Ev.neg n1 ?_)
      dsimp only
      have e42 := e4 h2 mn2
      by_cases z4 : m 4 = 0
      · obtain ⟨ra, fx⟩ := RA_back (i := 0) ⟨co, ch', ps⟩ (by omega) ft h35 nr1 f2 lv (h3 := h2) (fun _ _ => rfl) (by
          have : ms 0 = m := by rw [← z4]; exact ch'.2.1
          rw [this]; exact mn2)
        exact Ev.pos (by rw [e42, z4]; decide) (Ev.some ⟨e42.symm, fx, ms 0, ms, ra⟩)
      · refine Ev.neg (by rw [e42]; simp (disch := omega) only [up_s, up_k, up_j, mm_neg, mm_def, ni_lt, ni_le, ni_eq, ni_mm, mm_ni, ni_lt_mm, ni_le_mm, mm_lt_ni, mm_le_ni, mm_lt_mm, mm_le_mm, ni_cl, ni_in, nI_add, ni_mul, ni_div, ni_rem, ni_rem2, fr_sub, fr_mm, fr_ge0, fr_lt0, fr_inj, l32_0, l32_1, l32_2, l32_3, l32_4, l32_5, l32_6, l32_7, l32_8, l32_9, l32_10, l32_11, l32_12, l32_13, l32_14, l32_15, l32_16, l32_20, l32_24, l32_25, l32_26, l32_31, l32_32, l32_34, l32_35, l32_39, l32_40, l32_44, l32_45, l32_46, l32_47, l32_48, l32_49, l32_57, l32_58, l32_59, l32_63, l32_64, l32_85, l32_90, l32_97, l32_99, l32_100, l32_110, l32_112, l32_122, l32_124, l32_125, l32_255, l32_680, l32_699, l32_700, l32_999, l32_2500, l32_99999, l32_100000, l32_1000000, if_true, if_false, ite_true, ite_false, ce_nm, Option.bind, if_pos, if_neg]; omega) ?_
        have gb := x_goesBack (m := ms 0) (i := 0) (h := h2) (F := F) (by omega) (fun j hj => by rw [keep 71 (by omega)]; exact ps 0 (by omega) j hj) hF
        refine Ev.bind gb (fun h3 hh3 => Ev.some ?_)
        obtain ⟨ra, fx⟩ := RA_back (i := 0) ⟨co, ch', ps⟩ (by omega) ft h35 nr1 f2 lv hh3.1 hh3.2
        exact ⟨e42.symm, fx, ms 0, ms, ra⟩
