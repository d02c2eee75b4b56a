-- from the entry of the law to its loop (gen46.py)
def ce_h0 (g1 g2 : Nat → Int32) : Hp := fun k => match k with
  | 0 => (fun j => match j with
    | 2 => 7
    | 3 => 14
    | 4 => 21
    | 5 => 28
    | _ => 0)
  | 1 => (fun j => match j with
    | 5 => -1
    | _ => 0)
  | 12 => g1
  | 19 => g2
  | 65 => (fun j => match j with
    | 0 => -1
    | _ => 0)
  | 68 => (fun j => match j with
    | 6 => -1
    | _ => 0)
  | _ => fun _ => 0
def ce_ads (q : Nat) (x : Nat × (Nat × Nat) × Nat × (Nat × Nat) × Nat × (Nat × Nat × Nat × Nat × Nat × Nat × (Nat → Int32)) × Nat × (Nat × Nat × Nat × Nat × Nat × Nat × (Nat → Int32)) × Nat × (Nat × Nat × Nat × Nat × Nat × Nat) × Nat × (Nat × Nat × Nat × Nat × Nat × Nat) × Nat × (Nat × Nat × Nat × Nat) × Nat × (Nat × Nat × Nat) × Nat × (Nat × Nat × Nat) × Nat × (Nat × Nat × Nat × Nat × Nat × Nat) × Nat × (Nat × Nat × Nat × Nat × Nat × Nat) × Nat × (Nat × Nat) × Nat × (Nat × Nat)) (q2 : Nat) (x2 : Nat × Nat × Nat × Nat × Nat × Nat × Nat × Nat × Nat × Nat × Nat × Nat × Nat × Nat × Nat × Nat × Nat × Nat × Nat × Nat × Nat × Nat × Nat × Nat × Nat × Nat × Nat) : List Nat := [q, x.1, x.2.1.1, x.2.1.2, x.2.2.1, x.2.2.2.1.1, x.2.2.2.1.2, x.2.2.2.2.1, x.2.2.2.2.2.1.1, x.2.2.2.2.2.1.2.1, x.2.2.2.2.2.1.2.2.1, x.2.2.2.2.2.1.2.2.2.1, x.2.2.2.2.2.1.2.2.2.2.1, x.2.2.2.2.2.1.2.2.2.2.2.1, x.2.2.2.2.2.2.1, x.2.2.2.2.2.2.2.1.1, x.2.2.2.2.2.2.2.1.2.1, x.2.2.2.2.2.2.2.1.2.2.1, x.2.2.2.2.2.2.2.1.2.2.2.1, x.2.2.2.2.2.2.2.1.2.2.2.2.1, x.2.2.2.2.2.2.2.1.2.2.2.2.2.1, x.2.2.2.2.2.2.2.2.1, x.2.2.2.2.2.2.2.2.2.1.1, x.2.2.2.2.2.2.2.2.2.1.2.1, x.2.2.2.2.2.2.2.2.2.1.2.2.1, x.2.2.2.2.2.2.2.2.2.1.2.2.2.1, x.2.2.2.2.2.2.2.2.2.1.2.2.2.2.1, x.2.2.2.2.2.2.2.2.2.1.2.2.2.2.2, x.2.2.2.2.2.2.2.2.2.2.1, x.2.2.2.2.2.2.2.2.2.2.2.1.1, x.2.2.2.2.2.2.2.2.2.2.2.1.2.1, x.2.2.2.2.2.2.2.2.2.2.2.1.2.2.1, x.2.2.2.2.2.2.2.2.2.2.2.1.2.2.2.1, x.2.2.2.2.2.2.2.2.2.2.2.1.2.2.2.2.1, x.2.2.2.2.2.2.2.2.2.2.2.1.2.2.2.2.2, x.2.2.2.2.2.2.2.2.2.2.2.2.1, x.2.2.2.2.2.2.2.2.2.2.2.2.2.1.1, x.2.2.2.2.2.2.2.2.2.2.2.2.2.1.2.1, x.2.2.2.2.2.2.2.2.2.2.2.2.2.1.2.2.1, x.2.2.2.2.2.2.2.2.2.2.2.2.2.1.2.2.2, x.2.2.2.2.2.2.2.2.2.2.2.2.2.2.1, x.2.2.2.2.2.2.2.2.2.2.2.2.2.2.2.1.1, x.2.2.2.2.2.2.2.2.2.2.2.2.2.2.2.1.2.1, x.2.2.2.2.2.2.2.2.2.2.2.2.2.2.2.1.2.2, x.2.2.2.2.2.2.2.2.2.2.2.2.2.2.2.2.1, x.2.2.2.2.2.2.2.2.2.2.2.2.2.2.2.2.2.1.1, x.2.2.2.2.2.2.2.2.2.2.2.2.2.2.2.2.2.1.2.1, x.2.2.2.2.2.2.2.2.2.2.2.2.2.2.2.2.2.1.2.2, x.2.2.2.2.2.2.2.2.2.2.2.2.2.2.2.2.2.2.1, x.2.2.2.2.2.2.2.2.2.2.2.2.2.2.2.2.2.2.2.1.1, x.2.2.2.2.2.2.2.2.2.2.2.2.2.2.2.2.2.2.2.1.2.1, x.2.2.2.2.2.2.2.2.2.2.2.2.2.2.2.2.2.2.2.1.2.2.1, x.2.2.2.2.2.2.2.2.2.2.2.2.2.2.2.2.2.2.2.1.2.2.2.1, x.2.2.2.2.2.2.2.2.2.2.2.2.2.2.2.2.2.2.2.1.2.2.2.2.1, x.2.2.2.2.2.2.2.2.2.2.2.2.2.2.2.2.2.2.2.1.2.2.2.2.2, x.2.2.2.2.2.2.2.2.2.2.2.2.2.2.2.2.2.2.2.2.1, x.2.2.2.2.2.2.2.2.2.2.2.2.2.2.2.2.2.2.2.2.2.1.1, x.2.2.2.2.2.2.2.2.2.2.2.2.2.2.2.2.2.2.2.2.2.1.2.1, x.2.2.2.2.2.2.2.2.2.2.2.2.2.2.2.2.2.2.2.2.2.1.2.2.1, x.2.2.2.2.2.2.2.2.2.2.2.2.2.2.2.2.2.2.2.2.2.1.2.2.2.1, x.2.2.2.2.2.2.2.2.2.2.2.2.2.2.2.2.2.2.2.2.2.1.2.2.2.2.1, x.2.2.2.2.2.2.2.2.2.2.2.2.2.2.2.2.2.2.2.2.2.1.2.2.2.2.2, x.2.2.2.2.2.2.2.2.2.2.2.2.2.2.2.2.2.2.2.2.2.2.1, x.2.2.2.2.2.2.2.2.2.2.2.2.2.2.2.2.2.2.2.2.2.2.2.1.1, x.2.2.2.2.2.2.2.2.2.2.2.2.2.2.2.2.2.2.2.2.2.2.2.1.2, x.2.2.2.2.2.2.2.2.2.2.2.2.2.2.2.2.2.2.2.2.2.2.2.2.1, x.2.2.2.2.2.2.2.2.2.2.2.2.2.2.2.2.2.2.2.2.2.2.2.2.2.1, x.2.2.2.2.2.2.2.2.2.2.2.2.2.2.2.2.2.2.2.2.2.2.2.2.2.2, q2, x2.1, x2.2.1, x2.2.2.1, x2.2.2.2.1, x2.2.2.2.2.1, x2.2.2.2.2.2.1, x2.2.2.2.2.2.2.1, x2.2.2.2.2.2.2.2.1, x2.2.2.2.2.2.2.2.2.1, x2.2.2.2.2.2.2.2.2.2.1, x2.2.2.2.2.2.2.2.2.2.2.1, x2.2.2.2.2.2.2.2.2.2.2.2.1, x2.2.2.2.2.2.2.2.2.2.2.2.2.1, x2.2.2.2.2.2.2.2.2.2.2.2.2.2.1, x2.2.2.2.2.2.2.2.2.2.2.2.2.2.2.1, x2.2.2.2.2.2.2.2.2.2.2.2.2.2.2.2.1, x2.2.2.2.2.2.2.2.2.2.2.2.2.2.2.2.2.1, x2.2.2.2.2.2.2.2.2.2.2.2.2.2.2.2.2.2.1, x2.2.2.2.2.2.2.2.2.2.2.2.2.2.2.2.2.2.2.1, x2.2.2.2.2.2.2.2.2.2.2.2.2.2.2.2.2.2.2.2.1, x2.2.2.2.2.2.2.2.2.2.2.2.2.2.2.2.2.2.2.2.2.1, x2.2.2.2.2.2.2.2.2.2.2.2.2.2.2.2.2.2.2.2.2.2.1, x2.2.2.2.2.2.2.2.2.2.2.2.2.2.2.2.2.2.2.2.2.2.2.1, x2.2.2.2.2.2.2.2.2.2.2.2.2.2.2.2.2.2.2.2.2.2.2.2.1, x2.2.2.2.2.2.2.2.2.2.2.2.2.2.2.2.2.2.2.2.2.2.2.2.2.1, x2.2.2.2.2.2.2.2.2.2.2.2.2.2.2.2.2.2.2.2.2.2.2.2.2.2.1, x2.2.2.2.2.2.2.2.2.2.2.2.2.2.2.2.2.2.2.2.2.2.2.2.2.2.2]
set_option maxRecDepth 100000 in
set_option maxHeartbeats 8000000 in
theorem ce_made (cA : Nat → ClassId) (q : Nat) (x : Nat × (Nat × Nat) × Nat × (Nat × Nat) × Nat × (Nat × Nat × Nat × Nat × Nat × Nat × (Nat → Int32)) × Nat × (Nat × Nat × Nat × Nat × Nat × Nat × (Nat → Int32)) × Nat × (Nat × Nat × Nat × Nat × Nat × Nat) × Nat × (Nat × Nat × Nat × Nat × Nat × Nat) × Nat × (Nat × Nat × Nat × Nat) × Nat × (Nat × Nat × Nat) × Nat × (Nat × Nat × Nat) × Nat × (Nat × Nat × Nat × Nat × Nat × Nat) × Nat × (Nat × Nat × Nat × Nat × Nat × Nat) × Nat × (Nat × Nat) × Nat × (Nat × Nat)) (q2 : Nat) (x2 : Nat × Nat × Nat × Nat × Nat × Nat × Nat × Nat × Nat × Nat × Nat × Nat × Nat × Nat × Nat × Nat × Nat × Nat × Nat × Nat × Nat × Nat × Nat × Nat × Nat × Nat × Nat) : cz_11 cA q x ++ cz_12 cA q2 x2 = ce_wl (fun k => (ce_ads q x q2 x2).getD k 0) cA (ce_h0 x.2.2.2.2.2.1.2.2.2.2.2.2 x.2.2.2.2.2.2.2.1.2.2.2.2.2.2) := rfl
def ce_tm : Nat → Term := fun i => match i with
  | 0 => .string "CableElection$TextReader" 61
  | 1 => .string "CableElection$TextReader" 67
  | 2 => .string "CableElection$TextReader" 75
  | 3 => .string "CableElection$TextReader" 36
  | 4 => .string "CableElection$TextReader" 45
  | 5 => .string "CableElection$TextReader" 120
  | 6 => .string "CableElection$TextReader" 122
  | 7 => .string "CableElection$TextReader" 85
  | _ => .string "CableElection$TextReader" 160
theorem ce_fl_ex : ∀ i, i < 9 → Cond.exactly (ce_tm i) "java/lang/String" ∈ flatC (Jvm.Cond.and given_1 narrow_1) := by decide +kernel
theorem ce_fl_co : ∀ i, i < 9 → Cond.eq (.field (ce_tm i) "java/lang/String" "coder" "B") (.int 0) ∈ flatC (Jvm.Cond.and given_1 narrow_1) := by decide +kernel
theorem ce_fl_ar : ∀ i, i < 9 → Cond.arrayOf (.field (ce_tm i) "java/lang/String" "value" "[B") .byte ∈ flatC (Jvm.Cond.and given_1 narrow_1) := by decide +kernel
theorem ce_fl_le : ∀ i, i < 9 → Cond.eq (.length (.field (ce_tm i) "java/lang/String" "value" "[B")) (.int (Int32.ofNat (ce_lens.getD i 0))) ∈ flatC (Jvm.Cond.and given_1 narrow_1) := by decide +kernel
theorem ce_fl_el : ∀ i, i < 9 → ∀ j, j < ce_lens.getD i 0 → Cond.eq (.elem (.field (ce_tm i) "java/lang/String" "value" "[B") (.int (Int32.ofNat j))) (.int ((ce_byt.getD i []).getD j 0)) ∈ flatC (Jvm.Cond.and given_1 narrow_1) := by decide +kernel
theorem ce_fl_ne : ∀ i, i < 9 → ∀ j, j < 9 → i ≠ j → (Cond.not (Cond.eq (ce_tm i) (ce_tm j)) ∈ flatC (Jvm.Cond.and given_1 narrow_1) ∨ Cond.not (Cond.eq (ce_tm j) (ce_tm i)) ∈ flatC (Jvm.Cond.and given_1 narrow_1)) := by decide +kernel
theorem ce_fl_cs : Cond.eq (.static "java/lang/String" "COMPACT_STRINGS" "Z") (.int 1) ∈ flatC (Jvm.Cond.and given_1 narrow_1) := by decide +kernel
theorem ce_fl_si : Cond.isRef (.static "jdk/internal/util/Preconditions" "SIOOBE_FORMATTER" "Ljava/util/function/BiFunction;") ∈ flatC (Jvm.Cond.and given_1 narrow_1) := by decide +kernel
theorem ce_fl_mo : ∀ q ∈ ce_sr, (ce_tm q.2.2.2 = .string q.1 q.2.1) ∨ Cond.eq (ce_tm q.2.2.2) (.string q.1 q.2.1) ∈ flatC (Jvm.Cond.and given_1 narrow_1) := by decide +kernel
theorem ce_sr_w : ∀ q ∈ ce_sr, q.2.2.2 < 9 ∧ Cond.stringRef q.1 q.2.1 q.2.2.1 ∈ lw_tbl := by decide +kernel
theorem ce_nw_w : ∀ q ∈ ce_nw, Cond.methodLinkNest q.1 q.2.1 q.2.2 "CableElection" ∈ lw_tbl := by decide +kernel
theorem ce_ls_w : Cond.laysStatic "java/lang/String" "COMPACT_STRINGS" "Z" ∈ lw_tbl ∧ Cond.laysStatic "jdk/internal/util/Preconditions" "SIOOBE_FORMATTER" "Ljava/util/function/BiFunction;" ∈ lw_tbl ∧ Cond.initialized "java/lang/String" ∈ lw_tbl ∧ Cond.initialized "jdk/internal/util/Preconditions" ∈ lw_tbl := by decide +kernel
/-- the old part of the heap as the Statement gives it -/
theorem ce_st0 {s : State} {b : Nat} (hts : ∀ w ∈ lw_tbl, w.before #[Value.ref b] s = true) (hgv : (Jvm.Cond.and given_1 narrow_1).before #[Value.ref b] s = true) : ∃ aK aV : Nat → Nat, ce_St aK aV s.heap.size s := by
  have hs := flat_of_before _ hgv
  have hA : ∀ a : Nat, a < s.heap.size → ¬ (fun q : Nat => s.heap.size ≤ q) a := fun a h => Nat.not_le.mpr h
  obtain ⟨aK, aV, h1, h2⟩ := vk_Sof (args := #[Value.ref b]) (s := s) (N := 9) (tm := ce_tm) (len := ce_lens) (byt := ce_byt) (A := fun q : Nat => s.heap.size ≤ q) (fun i hi => ce_lens_lt i hi) (fun i hi => hs _ (ce_fl_ex i hi)) (fun i hi => hs _ (ce_fl_co i hi)) (fun i hi => hs _ (ce_fl_ar i hi)) (fun i hi => hs _ (ce_fl_le i hi)) (fun i hi j hj => hs _ (ce_fl_el i hi j hj)) (fun i j hi hj hij => (ce_fl_ne i hi j hj hij).elim (fun z => Or.inl (hs _ z)) (fun z => Or.inr (hs _ z))) hA
  refine ⟨aK, aV, h1, fun q hq => ?_, fun q hq => va_Nw.of rfl (hts _ (ce_nw_w q hq)), ?_, va_Zqof (hts _ ce_ls_w.2.1) (hts _ ce_ls_w.2.2.2) (hs _ ce_fl_si) hA⟩
  · obtain ⟨q1, q2⟩ := ce_sr_w q hq
    have ev : (Term.string q.1 q.2.1).eval #[Value.ref b] s none [] s = some (.ref (aK q.2.2.2)) := by
      rcases ce_fl_mo q hq with z | z
      · rw [← z]; exact h2 _ q1
      · obtain ⟨y, y1, y2⟩ := Cond.eq_one (hs _ z)
        rw [h2 _ q1] at y1
        rw [y2, ← y1]
    exact vk_R.of (hts _ q2) ev
  · obtain ⟨y, y1, y2⟩ := Cond.eq_one (hs _ ce_fl_cs)
    have : y = .int 1 := by
      have y3 : some (Value.int 1) = some y := y2
      exact (Option.some.inj y3).symm
    subst this
    exact va_Zof (hts _ ce_ls_w.1) (hts _ ce_ls_w.2.2.1) y1 hA
theorem mN_11 : Cond.instantiable cn_11 13 ∈ ce_cm := ce_cm_of (List.mem_of_getElem? (i := 110) (by decide +kernel)) (by decide +kernel)
theorem mN_12 : Cond.instantiable cn_12 43 ∈ ce_cm := ce_cm_of (List.mem_of_getElem? (i := 1116) (by decide +kernel)) (by decide +kernel)
theorem ce_kn {s : State} {b : Nat} (hts : ∀ w ∈ ce_cm, w.before #[Value.ref b] s = true) : ∃ (D : va_G), ∀ (k : Nat) (q : vw_C), ce_cl[k]? = some q → u_Kn s q.1 q.2.1 q.2.2 (D.1 k) (D.2 k) := by
  have key : ∀ k : Nat, ∃ z : ClassId × (Nat → Nat), ∀ q : vw_C, ce_cl[k]? = some q → u_Kn s q.1 q.2.1 q.2.2 z.1 z.2 := by
    intro k
    match k with
    | 0 =>
      obtain ⟨c9, i9, h9⟩ := u_known (C := cn_0) (T := ft_0) (N := 5) (n := 5) hts fw_0 (hts _ mN_0)
      exact ⟨(c9, i9), fun q hq => by cases hq; exact h9⟩
    | 1 =>
      obtain ⟨c9, i9, h9⟩ := u_known (C := cn_1) (T := ft_1) (N := 4) (n := 4) hts fw_1 (hts _ mN_1)
      exact ⟨(c9, i9), fun q hq => by cases hq; exact h9⟩
    | 2 =>
      obtain ⟨c9, i9, h9⟩ := u_known (C := cn_2) (T := ft_2) (N := 5) (n := 5) hts fw_2 (hts _ mN_2)
      exact ⟨(c9, i9), fun q hq => by cases hq; exact h9⟩
    | 3 =>
      obtain ⟨c9, i9, h9⟩ := u_known (C := cn_3) (T := ft_3) (N := 6) (n := 6) hts fw_3 (hts _ mN_3)
      exact ⟨(c9, i9), fun q hq => by cases hq; exact h9⟩
    | 4 =>
      obtain ⟨c9, i9, h9⟩ := u_known (C := cn_4) (T := ft_4) (N := 2) (n := 2) hts fw_4 (hts _ mN_4)
      exact ⟨(c9, i9), fun q hq => by cases hq; exact h9⟩
    | 5 =>
      obtain ⟨c9, i9, h9⟩ := u_known (C := cn_5) (T := ft_5) (N := 11) (n := 11) hts fw_5 (hts _ mN_5)
      exact ⟨(c9, i9), fun q hq => by cases hq; exact h9⟩
    | 6 =>
      obtain ⟨c9, i9, h9⟩ := u_known (C := cn_6) (T := ft_6) (N := 6) (n := 6) hts fw_6 (hts _ mN_6)
      exact ⟨(c9, i9), fun q hq => by cases hq; exact h9⟩
    | 7 =>
      obtain ⟨c9, i9, h9⟩ := u_known (C := cn_7) (T := ft_7) (N := 2) (n := 2) hts fw_7 (hts _ mN_7)
      exact ⟨(c9, i9), fun q hq => by cases hq; exact h9⟩
    | 8 =>
      obtain ⟨c9, i9, h9⟩ := u_known (C := cn_8) (T := ft_8) (N := 2) (n := 2) hts fw_8 (hts _ mN_8)
      exact ⟨(c9, i9), fun q hq => by cases hq; exact h9⟩
    | 9 =>
      obtain ⟨c9, i9, h9⟩ := u_known (C := cn_9) (T := ft_9) (N := 9) (n := 9) hts fw_9 (hts _ mN_9)
      exact ⟨(c9, i9), fun q hq => by cases hq; exact h9⟩
    | 10 =>
      obtain ⟨c9, i9, h9⟩ := u_known (C := cn_10) (T := ft_10) (N := 4) (n := 4) hts fw_10 (hts _ mN_10)
      exact ⟨(c9, i9), fun q hq => by cases hq; exact h9⟩
    | 11 =>
      obtain ⟨c9, i9, h9⟩ := u_known (C := cn_11) (T := ft_11) (N := 13) (n := 13) hts fw_11 (hts _ mN_11)
      exact ⟨(c9, i9), fun q hq => by cases hq; exact h9⟩
    | 12 =>
      obtain ⟨c9, i9, h9⟩ := u_known (C := cn_12) (T := ft_12) (N := 43) (n := 43) hts fw_12 (hts _ mN_12)
      exact ⟨(c9, i9), fun q hq => by cases hq; exact h9⟩
    | k + 13 => exact ⟨(default, fun _ => 0), fun q hq => by simp [ce_cl] at hq⟩
  obtain ⟨f, hf⟩ := Classical.axiomOfChoice key
  exact ⟨(fun k => (f k).1, fun k => (f k).2), fun k q hq => hf k q hq⟩
section CW
variable {p : Program} {l : Launch} {e : Env} {R : Room} {s : State} {m : MethodId} {args : Array Value} {below : List Frame} {meth : Method} {c : Code} {H : Heap} {locs : List Loc} {cells slots : Nat} {Q : State → Prop}
variable {cc : ByteArray} {pc nL : Nat} {ls : Array Slot} {rest : List Value} {own : String} {D : va_G} {cA : Nat → ClassId} {B0 : Nat} {St : State → Prop}
theorem cw_callI {α : Type} {post : α → Prop} {ws' : α → va_W} {ws : va_W} (hx : p.tables.exec = Jvm.exec) (hb : c.code = cc) (hml : c.maxLocals = nL) (hown : s.vm.findClass own = some m.cls) (hts : ∀ w ∈ ce_cm, w.before args s = true) (hK : va_K D ce_cl (ce_tys cA) s) (hB : B0 ≤ s.heap.size) (hSt : St s) (hok : ce_Sok B0 St) (hH : cx_H D B0 s ws H locs) {y : MethodName} {bytes : ByteArray} {maxL fr lo mc ms idx b : Nat}
    (hM : cx_Ct l D cA B0 St y bytes maxL fr lo mc ms [.ref b] ws post ws') (hyi : y.name = "<init>")
    (hcode : Cond.code y bytes maxL none ∈ ce_cm) (hlink : Cond.methodLink own idx y ∈ ce_cm) (hinst : Cond.instanceMethod y ∈ ce_cm) (hini : Cond.initialized y.cls ∈ ce_cm)
    (hd : y.cls ≠ "java/lang/invoke/MethodHandle" ∧ y.cls ≠ "java/lang/invoke/VarHandle" ∧ (parseMethodDescriptor y.desc).map (fun d => d.parameters.length) = some 0) (hR : fr + 1 ≤ R.frames ∧ 8 + (maxL + 11) + lo ≤ R.locals) (hcs : cells + mc ≤ R.cells ∧ slots + ms ≤ R.slots)
    (hls : ls.size = nL) (hW : (rest.map fun v => v.category).sum ≤ 8) (hdg : decode cc pc = .ok (.invokespecial idx, 3))
    (kk : ∀ (x : α) (H1 : Heap) (locs1 : List Loc), post x → cx_H D B0 s (ws' x) H1 locs1 → W p l e R s m args below meth c H1 locs1 (cells + mc) (slots + ms) Q (F0 m (pc + 3) ls rest)) : W p l e R s m args below meth c H locs cells slots Q (F0 m pc ls (.ref b :: rest)) := by
  have hr := va_runI (H := H) (locs := locs) (cells := cells) (slots := slots) (below := below) (meth := meth) (e := e) (R := R) (g := F0 m pc ls (.ref b :: rest)) (As := []) (rest := rest) (n := 0) ⟨hx, hb, hml, hown, hts⟩ hM ⟨callB_of 0 hts (ce_good hcode) rfl rfl rfl (hts _ hini) (hts _ hlink) hd hR, hyi, hts _ hinst⟩ ⟨cx_blind hok, fun U hU hW => ⟨rfl, by rw [hU]; exact hH.1, hH.2.1, va_K.moved hW.alike hK, by rw [hU]; exact Nat.le_trans hB hH.2.2.1, hok.1 s U hW hSt (fun q q1 q2 => by rw [hU]; exact hH.2.2.2.1 q q1 q2)⟩⟩ rfl rfl hls rfl (lv_room hW) hdg hcs
  obtain ⟨hP, hD, hS⟩ := hH
  intro T hT X
  obtain ⟨v, st₀, t, T', L, h0, X', hL, e1, e2, ⟨⟨hv, x, hx9, hP1, hD1, hK1, -⟩, hz, hk⟩, st⟩ := hr T hT X
  cases hv
  rw [h0] at hz hk
  rw [← e1] at hP1 hz hk
  obtain ⟨t2, a1, b1⟩ := kk x T'.heap (locs ++ L) hx9 ⟨hP1, hD1, Nat.le_trans hS.1 hz, fun q h1 h2 => by rw [hk q (Nat.lt_of_lt_of_le h1 hS.1) h2]; exact hS.2.1 q h1 h2, fun q hq => by
      rcases List.mem_append.mp hq with z | z
      · exact hS.2.2 q z
      · exact hL q z⟩ T' rfl X'
  exact ⟨t2, st t2 a1, b1⟩
end CW
theorem mL_L_7 : Cond.classLink R_law 7 cn_11 ∈ ce_cm := ce_cm_of (List.mem_of_getElem? (i := 109) (by decide +kernel)) (by decide +kernel)
theorem mL_L_10 : Cond.classLink R_law 10 cn_12 ∈ ce_cm := ce_cm_of (List.mem_of_getElem? (i := 1115) (by decide +kernel)) (by decide +kernel)
theorem ml_L_9 : Cond.methodLink R_law 9 y11_init ∈ ce_cm := ce_cm_of (List.mem_of_getElem? (i := 111) (by decide +kernel)) (by decide +kernel)
theorem ml_L_12 : Cond.methodLink R_law 12 y12_init ∈ ce_cm := ce_cm_of (List.mem_of_getElem? (i := 1117) (by decide +kernel)) (by decide +kernel)
theorem mc11_init : Cond.code y11_init b11_init 1 none ∈ ce_cm := ce_cm_of (List.mem_of_getElem? (i := 113) (by decide +kernel)) (by decide +kernel)
theorem mc12_init : Cond.code y12_init b12_init 1 none ∈ ce_cm := ce_cm_of (List.mem_of_getElem? (i := 1119) (by decide +kernel)) (by decide +kernel)
theorem mi11_init : Cond.instanceMethod y11_init ∈ ce_cm := ce_cm_of (List.mem_of_getElem? (i := 112) (by decide +kernel)) (by decide +kernel)
theorem mi12_init : Cond.instanceMethod y12_init ∈ ce_cm := ce_cm_of (List.mem_of_getElem? (i := 1118) (by decide +kernel)) (by decide +kernel)
theorem d_law_0h : decode code 0 = .ok (.new 7, 3) := by decide +kernel
theorem d_law_3h : decode code 3 = .ok (.dup, 1) := by decide +kernel
theorem d_law_4h : decode code 4 = .ok (.invokespecial 9, 3) := by decide +kernel
theorem d_law_7h : decode code 7 = .ok (.astore_n 1, 1) := by decide +kernel
theorem d_law_8h : decode code 8 = .ok (.new 10, 3) := by decide +kernel
theorem d_law_11h : decode code 11 = .ok (.dup, 1) := by decide +kernel
theorem d_law_12h : decode code 12 = .ok (.invokespecial 12, 3) := by decide +kernel
theorem d_law_15h : decode code 15 = .ok (.astore_n 2, 1) := by decide +kernel
theorem d_law_16h : decode code 16 = .ok (.iconst 0, 1) := by decide +kernel
theorem d_law_17h : decode code 17 = .ok (.istore_n 3, 1) := by decide +kernel
set_option maxHeartbeats 8000000 in
set_option maxRecDepth 100000 in
theorem ce_start {p : Program} {e : Env} {s : State} {m : MethodId} {below : List Frame} {meth : Method} {c : Code} (l : Launch) {b L : Nat} {xs : Nat → Int32} (C0 : lw_At p s m meth c b L xs) (hpure : ∀ g1 g2 : Nat → Int32, (∀ j, j < 40 → g1 j = -1) → (∀ j, j < 40 → g2 j = -1) → ∃ (F : Nat) (r : Hp), ce_it (fun (st : Int32 × Hp) => law_b F L xs st.1 st.2) 600 (0, ce_h0 g1 g2) = some r) : W p l e room_1 s m #[Value.ref b] below meth c s.heap [] 0 0 (lw_Z below #[Value.ref b] s) (entryFrame m ([Value.ref b] : List Value).toArray 4) := by
  obtain ⟨hx, hb, hr, hml, hown, htb, hX, hbl, hlocks, hgv⟩ := C0
  have hts : ∀ w ∈ ce_cm, w.before #[Value.ref b] s = true := fun w hw => htb w (List.mem_filter.mp hw).1
  obtain ⟨aK, aV, hSt⟩ := ce_st0 htb hgv
  obtain ⟨D, hD0⟩ := ce_kn hts
  obtain ⟨cI, kI, pI, i1, i2, i3⟩ := Cond.arrayClass_spec (hts _ mA_0)
  obtain ⟨cB, kB, pB, b1, b2, b3⟩ := Cond.arrayClass_spec (hts _ mA_1)
  obtain ⟨cZ, kZ, pZ, z1, z2, z3⟩ := Cond.arrayClass_spec (hts _ mA_2)
  obtain ⟨cA, hcA⟩ : ∃ f : Nat → ClassId, f = fun k => if k = 0 then cI else if k = 1 then cB else cZ := ⟨_, rfl⟩
  have hK : va_K D ce_cl (ce_tys cA) s := by
    subst hcA
    refine ⟨hD0, fun k q hq => ?_⟩
    match k, hq with
    | 0, hq => cases hq; exact ⟨fun n z => ⟨fun k h => (by cases h), kI, i2, pI, i3⟩, i1⟩
    | 1, hq => cases hq; exact ⟨fun n z => ⟨fun k h => (by cases h), kB, b2, pB, b3⟩, b1⟩
    | 2, hq => cases hq; exact ⟨fun n z => ⟨fun k h => (by cases h), kZ, z2, pZ, z3⟩, z1⟩
    | k + 3, hq => simp at hq
  have hok := ce_sok aK aV s.heap.size
  have hS : va_S (fun q : Nat => s.heap.size ≤ q) s.heap s.heap [] := va_S.rf
  have hP : va_P D ce_cl [] s.heap := fun k q h => by simp at h
  have hD : va_D (fun q : Nat => s.heap.size ≤ q) [] := ⟨fun i j p q h => by simp at h, fun k q h => by simp at h⟩
  have hl := lv_entry ([.ref b]) (n := 4) (Nat.le_of_ble_eq_true rfl)
  rw [lg_entry_eq]
  generalize (lg_sl ([.ref b]) ++ List.replicate (4 - (lg_sl ([.ref b])).length) Slot.unset).toArray = ls at hl ⊢
  have hl : lv_has ls 4 [(0, .ref b)] := hl
  refine va_new (D := D) (ci := 11) (fs := [.null, .null, .null, .null, .null, .null, .null, .null, .null, .null, .null, .null, .null]) (C := cn_11) (T := ft_11) (N := 13) hx hb hts fw_11 fy_11 fo_11 hown (hts _ mL_L_7) (hts _ mN_11) (hts _ mI_11) hK hP hD hS (fun q h => h) rfl (by decide +kernel) (Nat.le_of_ble_eq_true rfl) (Nat.le_of_ble_eq_true rfl) d_law_0h (fun q H hP hD hS => ?_)
  have hH : cx_H D s.heap.size s ([] ++ [(q, .inr (11, [.null, .null, .null, .null, .null, .null, .null, .null, .null, .null, .null, .null, .null]))]) H [] := ⟨hP, hD, hS⟩
  refine lv_dup hx hb d_law_3h rfl ?_
  refine cw_callI (rest := [.ref q]) hx hb hml hown hts hK (Nat.le_refl _) hSt hok hH (ci_11 l D cA aK aV s.heap.size [] q) rfl mc11_init ml_L_9 mi11_init mI_11 (by decide) ⟨Nat.le_of_ble_eq_true rfl, Nat.le_of_ble_eq_true rfl⟩ ⟨Nat.le_of_ble_eq_true rfl, Nat.le_of_ble_eq_true rfl⟩ hl.1 (Nat.le_of_ble_eq_true rfl) d_law_4h (fun x H locs px hH => ?_)
  refine lv_astore_n (lv' := [(1, .ref q), (0, .ref b)]) hx hb d_law_7h rfl hl (by decide) rfl (fun ls hl => ?_)
  refine va_new (D := D) (ci := 12) (fs := [.null, .null, .null, .null, .int 0, .int 0, .int 0, .int 0, .int 0, .int 0, .int 0, .int 0, .int 0, .null, .null, .null, .null, .null, .null, .null, .null, .null, .null, .null, .int 0, .null, .null, .null, .null, .int 0, .null, .null, .int 0, .null, .null, .null, .null, .int 0, .int 0, .null, .null, .int 0, .int 0]) (C := cn_12) (T := ft_12) (N := 43) hx hb hts fw_12 fy_12 fo_12 hown (hts _ mL_L_10) (hts _ mN_12) (hts _ mI_12) hK hH.1 hH.2.1 hH.2.2 (fun q h => h) rfl (by decide +kernel) (Nat.le_of_ble_eq_true rfl) (Nat.le_of_ble_eq_true rfl) d_law_8h (fun q2 H hP hD hS => ?_)
  have hH : cx_H D s.heap.size s (([] ++ cz_11 cA q x) ++ [(q2, .inr (12, [.null, .null, .null, .null, .int 0, .int 0, .int 0, .int 0, .int 0, .int 0, .int 0, .int 0, .int 0, .null, .null, .null, .null, .null, .null, .null, .null, .null, .null, .null, .int 0, .null, .null, .null, .null, .int 0, .null, .null, .int 0, .null, .null, .null, .null, .int 0, .int 0, .null, .null, .int 0, .int 0]))]) H locs := ⟨hP, hD, hS⟩
  refine lv_dup hx hb d_law_11h rfl ?_
  refine cw_callI (rest := [.ref q2]) hx hb hml hown hts hK (Nat.le_refl _) hSt hok hH (ci_12 l D cA aK aV s.heap.size ([] ++ cz_11 cA q x) q2) rfl mc12_init ml_L_12 mi12_init mI_12 (by decide) ⟨Nat.le_of_ble_eq_true rfl, Nat.le_of_ble_eq_true rfl⟩ ⟨Nat.le_of_ble_eq_true rfl, Nat.le_of_ble_eq_true rfl⟩ hl.1 (Nat.le_of_ble_eq_true rfl) d_law_12h (fun x2 H locs _ hH => ?_)
  refine lv_astore_n (lv' := [(2, .ref q2), (1, .ref q), (0, .ref b)]) hx hb d_law_15h rfl hl (by decide) rfl (fun ls hl => ?_)
  refine lv_iconst (v := (0 : Int32)) hx hb d_law_16h (by decide) ?_
  refine lv_istore_n (lv' := [(3, .int (0 : Int32)), (2, .ref q2), (1, .ref q), (0, .ref b)]) hx hb d_law_17h rfl hl (by decide) rfl (fun ls hl => ?_)
  obtain ⟨ad, had⟩ : ∃ f : Nat → Nat, f = fun k => (ce_ads q x q2 x2).getD k 0 := ⟨_, rfl⟩
  have hw : [] ++ cz_11 cA q x ++ cz_12 cA q2 x2 = ce_wl ad cA (ce_h0 x.2.2.2.2.2.1.2.2.2.2.2.2 x.2.2.2.2.2.2.2.1.2.2.2.2.2.2) ++ [] := by
    rw [List.append_nil, List.nil_append, had]
    exact ce_made cA q x q2 x2
  obtain ⟨hP, hD, hS⟩ := hH
  rw [hw] at hP hD
  have hA : ce_Ad ad s.heap.size := by
    refine ⟨fun i j hi hj hij => ?_, fun i hi => ?_⟩
    · exact hD.1 i j _ _ (ce_wl_get ad cA _ [] hi) (ce_wl_get ad cA _ [] hj) hij
    · exact hD.2 i _ (ce_wl_get ad cA _ [] hi)
  obtain ⟨F, r, hF⟩ := hpure x.2.2.2.2.2.1.2.2.2.2.2.2 x.2.2.2.2.2.2.2.1.2.2.2.2.2.2 px.1 px.2
  have e0 : ad 0 = q := by rw [had]; rfl
  have e68 : ad 68 = q2 := by rw [had]; rfl
  rw [← e0, ← e68] at hl
  refine W.widen (k := 96 + 0) (n := 5568 + 5 * 0) (Nat.le_of_ble_eq_true rfl) (Nat.le_of_ble_eq_true rfl) ?_
  exact law_loop (ad := ad) (cA := cA) (D := D) (aK := aK) (aV := aV) ⟨hx, hb, hml, hown, hts, hK, hA, Nat.le_refl _, hr, hlocks, hSt⟩ hX hbl F 600 0 0 _ H locs ls r (by omega) ⟨hP, hD, hS⟩ (lv_sub hl [3, 2, 1, 0] rfl) (by rw [hF]; rfl)
