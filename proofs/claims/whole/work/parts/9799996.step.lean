-- what stands between two calls, and each call keeps it
theorem TP.eqv {h h' : Hp} {T : Nat} {t : Nat → Nat} (tp : TP h T t) (f : ∀ q, q = 1 ∨ q = 2 ∨ q = 3 ∨ q = 72 → h' q = h q) (g : ∀ j, j = 4 ∨ j = 5 ∨ j = 6 → h' 68 j = h 68 j) : TP h' T t := by
  obtain ⟨a1, a2, a3, a4, a5, a6⟩ := tp
  refine ⟨a1, by rw [f 2 (by omega)]; exact a2, by rw [g 4 (by omega)]; exact a3, fun i hi => ?_, by rw [f 1 (by omega), g 5 (by omega)]; exact a5, by rw [f 1 (by omega), g 6 (by omega)]; exact a6⟩
  rw [f 72 (by omega), f 3 (by omega)]
  exact a4 i hi
def RR (h : Hp) : Prop := ∃ m kn ms T t, RA h m kn ms ∧ h 0 3 = nI (21 - kn) ∧ TP h T t ∧ OT h
def Kp (a b : Hp → Option (Int32 × Hp)) : Prop := ∀ h, RR h → Ev (a h) (fun o => Ev (b o.2) (fun p => o.1 = p.1 ∧ RR p.2))
theorem RA.mn {h : Hp} {m : Nat → Nat} {kn : Nat} {ms : Nat → Nat → Nat} (ra : RA h m kn ms) : MN h m := ra.1.2.2.2.1
theorem RR.sc {h h' : Hp} (r : RR h) (f : Sc h h') : RR h' := by
  obtain ⟨m, kn, ms, T, t, ra, e3, tp, ot⟩ := r
  have b := net_le ra.1.2.1
  refine ⟨m, kn, ms, T, t, ra.eqv (by rw [f.1 0 (by omega)]) (fun j hj => by rw [f.1 69 (by omega)]; exact ra.mn j hj) (fun q h1 h2 => f.1 q (by omega)) (fun q hq => f.1 q (by omega)), by rw [f.1 0 (by omega)]; exact e3, tp.eqv (fun q hq => f.1 q (by omega)) (fun j hj => f.2 j (by omega)), ot.eqv (by rw [f.1 0 (by omega)]) (by rw [f.1 0 (by omega)]) (fun q hq => f.1 q (by omega)) (f.2 29 (by omega))⟩
theorem st_gd {a b : Hp → Option (Int32 × Hp)} (g : Gd a b) : Kp a b := by
  intro h rr
  have rr' := rr
  obtain ⟨m, kn, ms, T, t, ra, e3, tp, ot⟩ := rr
  obtain ⟨V, v1, v2⟩ := g m kn
  exact Ev.mono (v1 h ra.1) (fun o ho => Ev.mono (v2 o.2 (ra.1.sc ho.2)) (fun p hp => ⟨by rw [ho.1, hp.1], rr'.sc (ho.2.trans hp.2)⟩))
theorem st_ac {a b : Hp → Option (Int32 × Hp)} (g : Ac a b) : Kp a b := by
  intro h rr
  obtain ⟨m, kn, ms, T, t, ra, e3, tp, ot⟩ := rr
  refine Ev.mono (g h m kn ms ra) (fun o ho => Ev.mono ho (fun p hp => ?_))
  obtain ⟨p1, fx, m', ms', ra'⟩ := hp
  refine ⟨p1, m', kn, ms', T, t, ra', by rw [fx 0 (by omega)]; exact e3, tp.eqv (fun q hq => fx q (by omega)) (fun j hj => by rw [fx 68 (by omega)]), ot.eqv (by rw [fx 0 (by omega)]) (by rw [fx 0 (by omega)]) (fun q hq => fx q (by omega)) (by rw [fx 68 (by omega)])⟩
theorem RA.frT {h h' : Hp} {m : Nat → Nat} {kn : Nat} {ms : Nat → Nat → Nat} (ra : RA h m kn ms) (f : FrT h h') : RA h' m kn ms := by
  have b := net_le ra.1.2.1
  have f0 := f.1 0 (by omega) (by omega) (by omega) (by omega)
  have f69 := f.1 69 (by omega) (by omega) (by omega) (by omega)
  exact ra.eqv (by rw [f0]) (fun j hj => by rw [f69]; exact ra.mn j hj) (fun q h1 h2 => f.1 q (by omega) (by omega) (by omega) (by omega)) (fun q hq => f.1 q (by omega) (by omega) (by omega) (by omega))
theorem OT.frT {h h' : Hp} (ot : OT h) (f : FrT h h') : OT h' := by
  have f0 := f.1 0 (by omega) (by omega) (by omega) (by omega)
  exact ot.eqv (by rw [f0]) (by rw [f0]) (fun q hq => f.1 q (by omega) (by omega) (by omega) (by omega)) (f.2 29 (by omega))
theorem s_feed {F : Nat} (hF : 1000 ≤ F) (x1 x2 x3 x4 x5 : Int32) : Kp (f11_feed F x1 x2 x3 x4 x5) (f12_feed F x1 x2 x3 x4 x5) := by
  intro h rr
  obtain ⟨m, kn, ms, T, t, ra, e3, tp, ot⟩ := rr
  refine Ev.mono (q_feed hF x1 x2 x3 x4 x5 tp) (fun o ho => Ev.mono ho (fun p hp => ?_))
  obtain ⟨p1, f, T', t', tp'⟩ := hp
  exact ⟨p1, m, kn, ms, T', t', ra.frT f, by rw [f.1 0 (by omega) (by omega) (by omega) (by omega)]; exact e3, tp', ot.frT f⟩
theorem s_end {F : Nat} (hF : 1000 ≤ F) (x1 : Int32) : Kp (f11_end F x1) (f12_end F x1) := by
  intro h rr
  obtain ⟨m, kn, ms, T, t, ra, e3, tp, ot⟩ := rr
  refine Ev.mono (q_end x1 tp) (fun o ho => Ev.mono ho (fun p hp => ?_))
  obtain ⟨p1, f, T', t', tp'⟩ := hp
  exact ⟨p1, m, kn, ms, T', t', ra.frT f, by rw [f.1 0 (by omega) (by omega) (by omega) (by omega)]; exact e3, tp', ot.frT f⟩
theorem s_net {F : Nat} (hF : 1000 ≤ F) : Kp (f11_net F) (f12_net F) := by
  intro h rr
  obtain ⟨m, kn, ms, T, t, ra, e3, tp, ot⟩ := rr
  refine Ev.mono (q_net hF ra tp e3) (fun o ho => Ev.mono ho (fun p hp => ?_))
  obtain ⟨p1, ⟨f1, f2, f3⟩, m', kn', ms', ra', e3', tp'⟩ := hp
  exact ⟨p1, m', kn', ms', 0, t, ra', e3', tp', ot.eqv (f2 4 (by omega) (by omega)) (f2 5 (by omega) (by omega)) (fun q hq => f1 q (by omega)) f3⟩
theorem s_packets {F : Nat} (hF : 1000 ≤ F) : Kp (f11_packets F) (f12_packets F) := by
  intro h rr
  obtain ⟨m, kn, ms, T, t, ra, e3, tp, ot⟩ := rr
  have b := net_le ra.1.2.1
  refine Ev.mono (q_packets hF tp ot) (fun o ho => Ev.mono ho (fun p hp => ?_))
  obtain ⟨p1, ⟨f1, f2⟩, ot', tp'⟩ := hp
  exact ⟨p1, m, kn, ms, 0, t, ra.eqv (f2 2 (by omega) (by omega)) (fun j hj => by rw [f1 69 (by omega)]; exact ra.mn j hj) (fun q h1 h2 => f1 q (by omega)) (fun q hq => f1 q (by omega)), by rw [f2 3 (by omega) (by omega)]; exact e3, tp', ot'⟩
theorem s_fault {F : Nat} (hF : 1000 ≤ F) (x1 : Int32) : Kp (f11_fault F x1) (f12_fault F x1) := by
  intro h rr
  have rr' := rr
  obtain ⟨m, kn, ms, T, t, ra, e3, tp, ot⟩ := rr
  obtain ⟨V, v1, v2⟩ := q_fault (F := F) x1 tp
  exact Ev.of v1 (Ev.of v2 ⟨rfl, rr'⟩)
theorem s_built {F : Nat} (hF : 1000 ≤ F) (x1 x2 : Int32) : Kp (f11_built F x1 x2) (f12_built F x1 x2) := by
  intro h rr
  have rr' := rr
  obtain ⟨m, kn, ms, T, t, ra, e3, tp, ot⟩ := rr
  obtain ⟨V, v1, v2⟩ := q_built hF x1 x2 ot
  exact Ev.of v1 (Ev.of v2 ⟨rfl, rr'⟩)
theorem s_count {F : Nat} (hF : 1000 ≤ F) (x1 : Int32) : Kp (f11_count F x1) (f12_count F x1) := by
  intro h rr
  have rr' := rr
  obtain ⟨m, kn, ms, T, t, ra, e3, tp, ot⟩ := rr
  obtain ⟨V, v1, v2⟩ := q_count hF x1 ra tp
  exact Ev.of v1 (Ev.mono v2 (fun p hp => ⟨hp.1.symm, rr'.sc (hp.2.sc (by omega))⟩))
theorem s_unlike {F : Nat} (hF : 1000 ≤ F) (x1 : Int32) : Kp (f11_unlike F x1) (f12_unlike F x1) := by
  intro h rr
  have rr' := rr
  obtain ⟨m, kn, ms, T, t, ra, e3, tp, kt, n, len, L, ok⟩ := rr
  obtain ⟨V, v1, v2⟩ := q_unlike (kt := kt) (n := n) (len := len) (L := L) hF x1 m kn
  exact Ev.mono (v1 h ra.1 ok) (fun o ho => Ev.mono (v2 o.2 (ra.1.sc ho.2) (ok.sc ho.2)) (fun p hp => ⟨by rw [ho.1, hp.1], rr'.sc (ho.2.trans hp.2)⟩))
theorem ct_no {p : Nat → Bool} {n : Nat} (h : ∀ i, i < n → p i = false) : ct p n = 0 := by
  induction n with
  | zero => rfl
  | succ n ih => rw [ct_s, ih (fun i hi => h i (by omega)), h n (by omega)]; rfl
theorem RR_0 {g1 g2 : Nat → Int32} (h1 : ∀ j, j < 40 → g1 j = -1) : RR (ce_h0 g1 g2) := by
  have nz : ∀ v : Nat, ¬ v < (fun _ : Nat => 0) 2 := fun v hv => Nat.not_lt_zero v hv
  have c0 : ct (fun e => bo (og (fun _ => 0) e ≠ 0)) 40 = 0 := ct_no (fun i _ => bo_f (fun q => q rfl))
  have on : OkN (fun _ => 0) := ⟨⟨Nat.zero_le _, Nat.zero_le _, fun v hv => absurd hv (nz v), fun e he q => absurd rfl q, fun e he q => absurd rfl q⟩, fun v hv => absurd hv (nz v), Nat.zero_le _, fun v _ => Nat.zero_le _, Nat.zero_le _, Nat.zero_le _, fun _ => ⟨rfl, rfl⟩⟩
  have nr : NetR (ce_h0 g1 g2) 7 (fun _ => 0) := ⟨⟨rfl, rfl, fun v hv => absurd hv (nz v), fun e he => h1 e he, fun e he q => absurd rfl q⟩, rfl, rfl, by rw [c0]; rfl, fun v hv => absurd hv (nz v), fun v hv => absurd hv (nz v)⟩
  refine ⟨fun _ => 0, 7, fun _ _ => 0, 0, fun _ => 0, ⟨⟨rfl, Or.inl rfl, on, fun j hj => rfl, nr, Or.inl ⟨rfl, rfl, rfl⟩⟩, ⟨rfl, rfl, fun i hi => absurd hi (Nat.not_lt_zero i)⟩, fun i hi => absurd hi (Nat.not_lt_zero i)⟩, rfl, ⟨Nat.zero_le _, rfl, rfl, fun i hi => absurd hi (Nat.not_lt_zero i), rfl, rfl⟩, 21, 0, fun _ => 0, fun _ => 0, rfl, rfl, Or.inl rfl, okL.zero, rfl, ⟨fun i hi => absurd hi (Nat.not_lt_zero i), fun i hi => absurd hi (Nat.not_lt_zero i), fun i hi => absurd hi (Nat.not_lt_zero i)⟩, rfl, fun i hi => absurd hi (Nat.not_lt_zero i), fun i hi => absurd hi (Nat.not_lt_zero i)⟩
theorem s_port {F : Nat} (hF : 1000 ≤ F) (x1 x2 x3 : Int32) : Kp (f11_port F x1 x2 x3) (f12_port F x1 x2 x3) := st_gd (q_port hF x1 x2 x3)
theorem s_root {F : Nat} (hF : 1000 ≤ F) (x1 : Int32) : Kp (f11_root F x1) (f12_root F x1) := st_gd (q_root hF x1)
theorem s_settled {F : Nat} (hF : 1000 ≤ F) (x1 : Int32) : Kp (f11_settled F x1) (f12_settled F x1) := st_gd (q_settled hF x1)
theorem s_called {F : Nat} (hF : 1000 ≤ F) (x1 : Int32) : Kp (f11_called F x1) (f12_called F x1) := st_gd (q_called hF x1)
theorem s_rounds {F : Nat} (hF : 1000 ≤ F) (x1 : Int32) : Kp (f11_rounds F x1) (f12_rounds F x1) := st_gd (q_rounds hF x1)
theorem s_taken {F : Nat} (hF : 1000 ≤ F) (x1 : Int32) : Kp (f11_taken F x1) (f12_taken F x1) := st_gd (q_taken hF x1)
theorem s_id {F : Nat} (hF : 1000 ≤ F) (x1 : Int32) : Kp (f11_id F x1) (f12_id F x1) := st_gd (q_id hF x1)
theorem s_named {F : Nat} (hF : 1000 ≤ F) (x1 x2 : Int32) : Kp (f11_named F x1 x2) (f12_named_ F x1 x2) := st_gd (q_named hF x1 x2)
theorem s_size {F : Nat} (hF : 1000 ≤ F) (x1 : Int32) : Kp (f11_size F x1) (f12_size F x1) := st_gd (q_size hF x1)
theorem s_parent {F : Nat} (hF : 1000 ≤ F) (x1 : Int32) : Kp (f11_parent F x1) (f12_parent F x1) := st_gd (q_parent hF x1)
theorem s_depth {F : Nat} (hF : 1000 ≤ F) (x1 : Int32) : Kp (f11_depth F x1) (f12_depth F x1) := st_gd (q_depth hF x1)
theorem s_below {F : Nat} (hF : 1000 ≤ F) (x1 : Int32) : Kp (f11_below F x1) (f12_below F x1) := st_gd (q_below hF x1)
theorem s_way {F : Nat} (hF : 1000 ≤ F) (x1 x2 : Int32) : Kp (f11_way F x1 x2) (f12_way F x1 x2) := st_gd (q_way hF x1 x2)
theorem s_hops {F : Nat} (hF : 1000 ≤ F) (x1 x2 : Int32) : Kp (f11_hops F x1 x2) (f12_hops F x1 x2) := st_gd (q_hops hF x1 x2)
theorem s_longest {F : Nat} (hF : 1000 ≤ F) (x1 : Int32) : Kp (f11_longest F x1) (f12_longest F x1) := st_gd (q_longest hF x1)
theorem s_gap {F : Nat} (hF : 1000 ≤ F) (x1 : Int32) : Kp (f11_gap F x1) (f12_gap F x1) := st_gd (q_gap hF x1)
theorem s_centre {F : Nat} (hF : 1000 ≤ F) (x1 : Int32) : Kp (f11_centre F x1) (f12_centre F x1) := st_gd (q_centre hF x1)
theorem s_packet {F : Nat} (hF : 1000 ≤ F) (x1 x2 : Int32) : Kp (f11_packet F x1 x2) (f12_packet F x1 x2) := st_gd (q_packet hF x1 x2)
theorem s_wins {F : Nat} (hF : 1000 ≤ F) (x1 : Int32) : Kp (f11_wins F x1) (f12_wins F x1) := st_gd (q_wins hF x1)
theorem s_grant {F : Nat} (hF : 1000 ≤ F) (x1 : Int32) : Kp (f11_grant F x1) (f12_grant F x1) := st_gd (q_grant hF x1)
theorem s_turn {F : Nat} (hF : 1000 ≤ F) (x1 x2 : Int32) : Kp (f11_turn F x1 x2) (f12_turn F x1 x2) := st_gd (q_turn hF x1 x2)
theorem s_fair {F : Nat} (hF : 1000 ≤ F) (x1 : Int32) : Kp (f11_fair F x1) (f12_fair F x1) := st_gd (q_fair hF x1)
theorem s_rootBy {F : Nat} (hF : 1000 ≤ F) (x1 : Int32) : Kp (f11_rootBy F x1) (f12_rootBy F x1) := st_gd (q_rootBy hF x1)
theorem s_cutting {F : Nat} (hF : 1000 ≤ F) (x1 x2 : Int32) : Kp (f11_cutting F x1 x2) (f12_cutting F x1 x2) := st_gd (q_cutting hF x1 x2)
theorem s_bridges {F : Nat} (hF : 1000 ≤ F) : Kp (f11_bridges F) (f12_bridges F) := st_gd (q_bridges hF)
theorem s_spare {F : Nat} (hF : 1000 ≤ F) (x1 : Int32) : Kp (f11_spare F x1) (f12_spare F x1) := st_gd (q_spare hF x1)
theorem s_plug {F : Nat} (hF : 1000 ≤ F) (x1 x2 x3 x4 x5 : Int32) : Kp (f11_plug F x1 x2 x3 x4 x5) (f12_plug F x1 x2 x3 x4 x5) := st_ac (q_plug hF x1 x2 x3 x4 x5)
theorem s_pull {F : Nat} (hF : 1000 ≤ F) (x1 x2 : Int32) : Kp (f11_pull F x1 x2) (f12_pull F x1 x2) := st_ac (q_pull hF x1 x2)
theorem s_force {F : Nat} (hF : 1000 ≤ F) (x1 x2 : Int32) : Kp (f11_force F x1 x2) (f12_force F x1 x2) := st_ac (q_force hF x1 x2)
theorem s_undo {F : Nat} (hF : 1000 ≤ F) : Kp (f11_undo F) (f12_undo F) := st_ac (q_undo hF)
theorem s_anew {F : Nat} (hF : 1000 ≤ F) : Kp (f11_anew F) (f12_anew F) := st_ac (q_anew hF)
