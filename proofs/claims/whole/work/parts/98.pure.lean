-- the pure functions of class and reference agree on every script
theorem lw_short {L : Nat} (h : L < 6) (i : Nat) (hi : i ≤ 512) : Int32.ofNat L - (6 : Int32) < nI (6 * i) := by
  refine Int32.lt_iff_toInt_lt.mpr ?_
  rw [nI_toI (by omega)]
  rcases (show L = 0 ∨ L = 1 ∨ L = 2 ∨ L = 3 ∨ L = 4 ∨ L = 5 by omega) with rfl | rfl | rfl | rfl | rfl | rfl
  · have : (Int32.ofNat 0 - (6 : Int32)).toInt = -6 := by decide
    omega
  · have : (Int32.ofNat 1 - (6 : Int32)).toInt = -5 := by decide
    omega
  · have : (Int32.ofNat 2 - (6 : Int32)).toInt = -4 := by decide
    omega
  · have : (Int32.ofNat 3 - (6 : Int32)).toInt = -3 := by decide
    omega
  · have : (Int32.ofNat 4 - (6 : Int32)).toInt = -2 := by decide
    omega
  · have : (Int32.ofNat 5 - (6 : Int32)).toInt = -1 := by decide
    omega
theorem lw_stops {F L i : Nat} {xs : Nat → Int32} {h : Hp} (hL : L ≤ 3072) (hi : i ≤ 512) (z : L < 6 * i + 6) : law_b F L xs (nI (6 * i)) h = some (.inr h) := by
  unfold law_b
  rw [if_pos]
  by_cases y : L < 6
  · exact lw_short y i hi
  · rw [show Int32.ofNat L = nI L from rfl, l32_6, ni_sub (by omega), ni_lt (by omega) (by omega)]
    omega
theorem law_pure (L : Nat) (xs : Nat → Int32) (hL : L ≤ 3072) (g1 g2 : Nat → Int32) (h1 : ∀ j, j < 40 → g1 j = -1) (h2 : ∀ j, j < 40 → g2 j = -1) : ∃ (F : Nat) (r : Hp), ce_it (fun (st : Int32 × Hp) => law_b F L xs st.1 st.2) 600 (0, ce_h0 g1 g2) = some r := by
  have key : Ev (ce_it (fun (st : Int32 × Hp) => law_b 1000 L xs st.1 st.2) 600 (0, ce_h0 g1 g2)) (fun _ => True) := by
    refine Ev.it (I := fun i st => i ≤ 512 ∧ st.1 = nI (6 * i) ∧ RR st.2) _ 512 ?_ 600 0 _ (by omega) (by omega) ⟨by omega, rfl, RR_0 h1⟩
    rintro i ⟨x, h⟩ hi ⟨-, hx, rr⟩
    have hx : x = nI (6 * i) := hx
    have rr : RR h := rr
    subst hx
    show Ev (law_b 1000 L xs (nI (6 * i)) h) _
    by_cases z : 6 * i + 6 ≤ L
    · refine lw_stp (by omega) hL z rr _ (fun h' r' => ?_)
      refine ⟨by omega, by omega, ?_, r'⟩
      show nI (6 * i) + (6 : Int32) = nI (6 * (i + 1))
      rw [l32_6, nI_add]
      rfl
    · exact Ev.of (lw_stops hL hi (by omega)) trivial
  obtain ⟨r, e, -⟩ := key
  exact ⟨1000, r, e⟩
theorem whole_start {p : Program} {e : Env} {s : State} {m : MethodId} {below : List Frame} {meth : Method} {c : Code} (l : Launch) (hflags : l.flags = flags0) {b L : Nat} {xs : Nat → Int32} (hL : L ≤ 3072) (C0 : lw_At p s m meth c b L xs) : W p l e room_1 s m #[Value.ref b] below meth c s.heap [] 0 0 (lw_Z below #[Value.ref b] s) (entryFrame m ([Value.ref b] : List Value).toArray 4) :=
  ce_start l C0 (fun g1 g2 h1 h2 => law_pure L xs hL g1 g2 h1 h2)
