-- C3: functions and contracts, written by wip/whole/gen (mgen.py, walk.py, walk2.py) out of the bytecode
section C3
variable {p : Program} {l : Launch} {e0 : Env} {R : Room} {s : State} {m : MethodId} {args : Array Value} {below : List Frame} {meth : Method} {c : Code} {H : Heap} {locs : List Loc} {cells slots : Nat} {Q : State → Prop}
variable {cc : ByteArray} {pc nL : Nat} {ret : Option FieldType} {ls : Array Slot} {rest : List Value} {D : va_G} {ad : Nat → Nat} {cA : Nat → ClassId} {B0 : Nat} {X : va_W} {h : Hp} {aK aV : Nat → Nat}
abbrev b10_start : ByteArray := prog_12_method_2_code
def y10_start : MethodName := ⟨cn_10, "start", "(LCableElection$Net;II)V"⟩
theorem d10_start_0 : decode b10_start 0 = .ok (.aload_n 0, 1) := by decide +kernel
theorem d10_start_1 : decode b10_start 1 = .ok (.getfield 19, 3) := by decide +kernel
theorem d10_start_4 : decode b10_start 4 = .ok (.iconst (-1), 1) := by decide +kernel
theorem d10_start_5 : decode b10_start 5 = .ok (.invokestatic 25, 3) := by decide +kernel
theorem d10_start_8 : decode b10_start 8 = .ok (.aload_n 0, 1) := by decide +kernel
theorem d10_start_9 : decode b10_start 9 = .ok (.getfield 22, 3) := by decide +kernel
theorem d10_start_12 : decode b10_start 12 = .ok (.iconst (-1), 1) := by decide +kernel
theorem d10_start_13 : decode b10_start 13 = .ok (.invokestatic 25, 3) := by decide +kernel
theorem d10_start_16 : decode b10_start 16 = .ok (.aload_n 0, 1) := by decide +kernel
theorem d10_start_17 : decode b10_start 17 = .ok (.iconst 0, 1) := by decide +kernel
theorem d10_start_18 : decode b10_start 18 = .ok (.putfield 9, 3) := by decide +kernel
theorem d10_start_21 : decode b10_start 21 = .ok (.aload_n 0, 1) := by decide +kernel
theorem d10_start_22 : decode b10_start 22 = .ok (.iload_n 2, 1) := by decide +kernel
theorem d10_start_23 : decode b10_start 23 = .ok (.iconst 0, 1) := by decide +kernel
theorem d10_start_24 : decode b10_start 24 = .ok (.iconst 0, 1) := by decide +kernel
theorem d10_start_25 : decode b10_start 25 = .ok (.invokevirtual 31, 3) := by decide +kernel
theorem d10_start_28 : decode b10_start 28 = .ok (.iconst 0, 1) := by decide +kernel
theorem d10_start_29 : decode b10_start 29 = .ok (.istore 4, 2) := by decide +kernel
theorem d10_start_31 : decode b10_start 31 = .ok (.iload 4, 2) := by decide +kernel
theorem d10_start_33 : decode b10_start 33 = .ok (.aload_n 0, 1) := by decide +kernel
theorem d10_start_34 : decode b10_start 34 = .ok (.getfield 9, 3) := by decide +kernel
theorem d10_start_37 : decode b10_start 37 = .ok (.if_icmp .ge 29, 3) := by decide +kernel
theorem d10_start_40 : decode b10_start 40 = .ok (.iload 4, 2) := by decide +kernel
theorem d10_start_42 : decode b10_start 42 = .ok (.bipush 10, 2) := by decide +kernel
theorem d10_start_44 : decode b10_start 44 = .ok (.if_icmp .ge 22, 3) := by decide +kernel
theorem d10_start_47 : decode b10_start 47 = .ok (.aload_n 0, 1) := by decide +kernel
theorem d10_start_48 : decode b10_start 48 = .ok (.aload_n 1, 1) := by decide +kernel
theorem d10_start_49 : decode b10_start 49 = .ok (.aload_n 0, 1) := by decide +kernel
theorem d10_start_50 : decode b10_start 50 = .ok (.getfield 15, 3) := by decide +kernel
theorem d10_start_53 : decode b10_start 53 = .ok (.iload 4, 2) := by decide +kernel
theorem d10_start_55 : decode b10_start 55 = .ok (.iaload, 1) := by decide +kernel
theorem d10_start_56 : decode b10_start 56 = .ok (.iload_n 3, 1) := by decide +kernel
theorem d10_start_57 : decode b10_start 57 = .ok (.invokevirtual 35, 3) := by decide +kernel
theorem d10_start_60 : decode b10_start 60 = .ok (.iinc 4 1, 3) := by decide +kernel
theorem d10_start_63 : decode b10_start 63 = .ok (.goto (-32), 3) := by decide +kernel
theorem d10_start_66 : decode b10_start 66 = .ok (.return_, 1) := by decide +kernel
theorem mc10_spread : Cond.code y10_spread b10_spread 7 none ∈ ce_cm := ce_cm_of (List.mem_of_getElem? (i := 710) (by decide +kernel)) (by decide +kernel)
theorem ml_10_35 : Cond.methodLink cn_10 35 y10_spread ∈ ce_cm := ce_cm_of (List.mem_of_getElem? (i := 707) (by decide +kernel)) (by decide +kernel)
theorem mi10_spread : Cond.instanceMethod y10_spread ∈ ce_cm := ce_cm_of (List.mem_of_getElem? (i := 709) (by decide +kernel)) (by decide +kernel)
theorem ms10_spread : Cond.selects cn_10 y10_spread y10_spread ∈ ce_cm := ce_cm_of (List.mem_of_getElem? (i := 11) (by decide +kernel)) (by decide +kernel)
theorem ml_10_25 : Cond.methodLink cn_10 25 y7_fill_53178 ∈ ce_cm := ce_cm_of (List.mem_of_getElem? (i := 702) (by decide +kernel)) (by decide +kernel)
def f10_start_b31 (F : Nat) (k1 : Nat) (x3 : Int32) (x4 : Int32) (h : Hp) : Option ((Int32 × Hp) ⊕ (Hp)) :=
  if (h 40 0) ≤ x4 then
    some (.inr h)
  else
    if (10 : Int32) ≤ x4 then
      some (.inr h)
    else
      if ce_in x4 10 = true then
        Option.bind (f10_spread F k1 (h 41 (x4).toNatClampNeg) x3 h) (fun o57 =>
          some (.inl (x4 + (1 : Int32), o57)))
      else none
set_option maxRecDepth 20000 in
theorem l10_start_31 (C : ce_Cx p s m args c meth b10_start 5 none cn_10 D ad cA B0 (ce_St aK aV B0)) (F : Nat) (k1 : Nat) (x3 : Int32) (hk1 : ce_isNet k1) (r : Hp) (g : (Hp) → Option (Hp)) (hx : ∀  (h : Hp) (H : Heap) (locs : List Loc) (ls : Array Slot), ce_H D ad cA B0 [] s h H locs → lv_has ls 5 [] → g h = some r → W p l e0 { frames := 2, cells := 0, slots := 0, locals := 49 } s m args below meth c H locs 0 0 (MQ below (ce_Q D ad cA B0 (ce_St aK aV B0) none r) args s 0 0 (fun q => B0 ≤ q)) (F0 m 66 ls [])) : ∀ (n : Nat) (x4 : Int32) (h : Hp) (H : Heap) (locs : List Loc) (ls : Array Slot), ce_H D ad cA B0 [] s h H locs → lv_has ls 5 [(0, .ref (ad 40)), (1, .ref (ad k1)), (3, .int x3), (4, .int x4)] → Option.bind (ce_it (fun (st : Int32 × Hp) => f10_start_b31 F k1 x3 st.1 st.2) n (x4, h)) g = some r → W p l e0 { frames := 2, cells := 0, slots := 0, locals := 49 } s m args below meth c H locs 0 0 (MQ below (ce_Q D ad cA B0 (ce_St aK aV B0) none r) args s 0 0 (fun q => B0 ≤ q)) (F0 m 31 ls []) := by
  intro n
  induction n with
  | zero =>
    intro x4 h H locs ls hH hl e
    exact absurd e (fun z => by cases z)
  | succ n ih =>
    intro x4 h H locs ls hH hl e
    have hx9 := C.1
    have hb := C.2.1
    have e : Option.bind (f10_start_b31 F k1 x3 x4 h) _ = some r := ce_it_bd e
    unfold f10_start_b31 at e
    refine lv_iload hx9 hb d10_start_31 (lv_at hl 3 rfl) ?_
    refine lv_aload_n hx9 hb d10_start_33 rfl (lv_at hl 0 rfl) ?_
    refine gf_10_9 C hH d10_start_34 ?_
    refine lv_icmp_ge (tgt := 66) hx9 hb d10_start_37 (by decide) (fun hc37 => ?_) (fun hc37 => ?_)
    · have e := ce_if1 e hc37
      exact hx  h _ _ _ hH (lv_sub hl [] rfl) e
    · have e := ce_if0 e hc37
      refine lv_iload hx9 hb d10_start_40 (lv_at hl 3 rfl) ?_
      refine lv_bipush (v := (10 : Int32)) hx9 hb d10_start_42 (by decide) ?_
      refine lv_icmp_ge (tgt := 66) hx9 hb d10_start_44 (by decide) (fun hc44 => ?_) (fun hc44 => ?_)
      · have e := ce_if1 e hc44
        exact hx  h _ _ _ hH (lv_sub hl [] rfl) e
      · have e := ce_if0 e hc44
        refine lv_aload_n hx9 hb d10_start_47 rfl (lv_at hl 0 rfl) ?_
        refine lv_aload_n hx9 hb d10_start_48 rfl (lv_at hl 1 rfl) ?_
        refine lv_aload_n hx9 hb d10_start_49 rfl (lv_at hl 0 rfl) ?_
        refine gf_10_15 C hH d10_start_50 ?_
        refine lv_iload hx9 hb d10_start_53 (lv_at hl 3 rfl) ?_
        obtain ⟨hi55, e⟩ := ce_gd e
        refine ce_iald C hH lc_41.1 lc_41.2 (ce_in_vp hi55) d10_start_55 ?_
        refine lv_iload_n hx9 hb d10_start_56 rfl (lv_at hl 2 rfl) ?_
        obtain ⟨o57, eo57, e⟩ := ce_bd e
        refine ce_callV (As := [.ref (ad k1), .int (h 41 (x4).toNatClampNeg), .int x3]) (rest := []) C (ce_sok aK aV B0) hH (c10_spread l D ad cA aK aV B0 C.2.2.2.2.2.2.1 F k1 (h 41 (x4).toNatClampNeg) x3 hk1 h o57 eo57) lo_40.1 lo_40.2.choose_spec rfl rfl mc10_spread ml_10_35 mi10_spread ms10_spread mI_10 (n := 3) (by decide) rfl ⟨Nat.le_of_ble_eq_true rfl, Nat.le_of_ble_eq_true rfl⟩ ⟨Nat.le_of_ble_eq_true rfl, Nat.le_of_ble_eq_true rfl⟩ hl.1 rfl (Nat.le_of_ble_eq_true rfl) d10_start_57 (fun H locs hH => ?_)
        refine W.eq (g2 := F0 m 60 ls []) rfl ?_
        refine lv_iinc (v := x4 + (1 : Int32)) (lv' := [(4, .int (x4 + (1 : Int32))), (0, .ref (ad 40)), (1, .ref (ad k1)), (3, .int x3)]) hx9 hb d10_start_60 hl (k := 3) rfl rfl (by decide) rfl (fun ls hl => ?_)
        refine lv_goto (tgt := 31) hx9 hb d10_start_63 (by decide) ?_
        exact ih (x4 + (1 : Int32)) o57 _ _ _ hH (lv_sub hl [1, 2, 3, 0] rfl) e
def f10_start (F : Nat) (k1 : Nat) (x2 : Int32) (x3 : Int32) (h : Hp) : Option (Hp) :=
  Option.bind (f7_fill_53178 F 42 10 (-1 : Int32) h) (fun o5 =>
    Option.bind (f7_fill_53178 F 43 10 (-1 : Int32) o5) (fun o13 =>
      ce_nm (hp_up o13 40 0 (0 : Int32)) (fun h_18 =>
        Option.bind (f10_reach F x2 (0 : Int32) (0 : Int32) h_18) (fun o25 =>
          Option.bind (ce_it (fun (st : Int32 × Hp) => f10_start_b31 F k1 x3 st.1 st.2) F ((0 : Int32), o25)) (fun o31 =>
            some o31)))))
set_option maxRecDepth 20000 in
theorem c10_start (l : Launch) (D : va_G) (ad : Nat → Nat) (cA : Nat → ClassId) (aK aV : Nat → Nat) (B0 : Nat) (hA : ce_Ad ad B0) (F : Nat) (k1 : Nat) (x2 : Int32) (x3 : Int32) (hk1 : ce_isNet k1) (h : Hp) (r : Hp) (e : f10_start F k1 x2 x3 h = some r) : ce_Ct l D ad cA B0 (ce_St aK aV B0) y10_start b10_start 5 none 2 49 0 0 [.ref (ad 40), .ref (ad k1), .int x2, .int x3] h none r := by
  refine ce_enter hA (by decide) rfl (Nat.le_of_ble_eq_true rfl) (fun p e0 s m below meth c ls C hH hl => ?_)
  have hl : lv_has ls 5 [(0, .ref (ad 40)), (1, .ref (ad k1)), (2, .int x2), (3, .int x3)] := hl
  have hx := C.1
  have hb := C.2.1
  have e : Option.bind _ some = some r := (congrArg (fun z => Option.bind z some) e).trans rfl
  unfold f10_start at e
  refine lv_aload_n hx hb d10_start_0 rfl (lv_at hl 0 rfl) ?_
  refine gf_10_19 C hH d10_start_1 ?_
  refine lv_iconst (v := (-1 : Int32)) hx hb d10_start_4 (by decide) ?_
  obtain ⟨o5, eo5, e⟩ := ce_bd e
  refine ce_callS (As := [.ref (ad 42), .int (-1 : Int32)]) (rest := []) C (ce_sok aK aV B0) hH (c7_fill_53178 l D ad cA aK aV B0 C.2.2.2.2.2.2.1 F 42 10 (-1 : Int32) ⟨lc_42.1, lc_42.2⟩ h o5 eo5) mc7_fill_53178 ml_10_25 mt7_fill_53178 mI_A (n := 2) (by decide) rfl ⟨Nat.le_of_ble_eq_true rfl, Nat.le_of_ble_eq_true rfl⟩ ⟨Nat.le_of_ble_eq_true rfl, Nat.le_of_ble_eq_true rfl⟩ hl.1 rfl (Nat.le_of_ble_eq_true rfl) d10_start_5 (fun H locs hH => ?_)
  refine W.eq (g2 := F0 m 8 ls []) rfl ?_
  refine lv_aload_n hx hb d10_start_8 rfl (lv_at hl 0 rfl) ?_
  refine gf_10_22 C hH d10_start_9 ?_
  refine lv_iconst (v := (-1 : Int32)) hx hb d10_start_12 (by decide) ?_
  obtain ⟨o13, eo13, e⟩ := ce_bd e
  refine ce_callS (As := [.ref (ad 43), .int (-1 : Int32)]) (rest := []) C (ce_sok aK aV B0) hH (c7_fill_53178 l D ad cA aK aV B0 C.2.2.2.2.2.2.1 F 43 10 (-1 : Int32) ⟨lc_43.1, lc_43.2⟩ o5 o13 eo13) mc7_fill_53178 ml_10_25 mt7_fill_53178 mI_A (n := 2) (by decide) rfl ⟨Nat.le_of_ble_eq_true rfl, Nat.le_of_ble_eq_true rfl⟩ ⟨Nat.le_of_ble_eq_true rfl, Nat.le_of_ble_eq_true rfl⟩ hl.1 rfl (Nat.le_of_ble_eq_true rfl) d10_start_13 (fun H locs hH => ?_)
  refine W.eq (g2 := F0 m 16 ls []) rfl ?_
  refine lv_aload_n hx hb d10_start_16 rfl (lv_at hl 0 rfl) ?_
  refine lv_iconst (v := (0 : Int32)) hx hb d10_start_17 (by decide) ?_
  refine pf_10_9 C hH d10_start_18 (fun H locs hH => ?_)
  obtain ⟨h_18, eh_18, e⟩ := ce_nmE e
  rw [← eh_18] at hH
  refine lv_aload_n hx hb d10_start_21 rfl (lv_at hl 0 rfl) ?_
  refine lv_iload_n hx hb d10_start_22 rfl (lv_at hl 2 rfl) ?_
  refine lv_iconst (v := (0 : Int32)) hx hb d10_start_23 (by decide) ?_
  refine lv_iconst (v := (0 : Int32)) hx hb d10_start_24 (by decide) ?_
  obtain ⟨o25, eo25, e⟩ := ce_bd e
  refine ce_callV (As := [.int x2, .int (0 : Int32), .int (0 : Int32)]) (rest := []) C (ce_sok aK aV B0) hH (c10_reach l D ad cA aK aV B0 C.2.2.2.2.2.2.1 F x2 (0 : Int32) (0 : Int32)  h_18 o25 eo25) lo_40.1 lo_40.2.choose_spec rfl rfl mc10_reach ml_10_31 mi10_reach ms10_reach mI_10 (n := 3) (by decide) rfl ⟨Nat.le_of_ble_eq_true rfl, Nat.le_of_ble_eq_true rfl⟩ ⟨Nat.le_of_ble_eq_true rfl, Nat.le_of_ble_eq_true rfl⟩ hl.1 rfl (Nat.le_of_ble_eq_true rfl) d10_start_25 (fun H locs hH => ?_)
  refine W.eq (g2 := F0 m 28 ls []) rfl ?_
  refine lv_iconst (v := (0 : Int32)) hx hb d10_start_28 (by decide) ?_
  refine lv_istore (lv' := [(4, .int (0 : Int32)), (0, .ref (ad 40)), (1, .ref (ad k1)), (2, .int x2), (3, .int x3)]) hx hb d10_start_29 hl (by decide) rfl (fun ls hl => ?_)
  refine l10_start_31 C F k1 x3 hk1 r _ (fun  h_31 H locs ls hH hl e => ?_) F (0 : Int32) o25 _ _ _ hH (lv_sub hl [1, 2, 4, 0] rfl) (ce_as e)
  try dsimp only at e
  exact ce_vret C (ce_sok aK aV B0) hH (Option.some.inj e) d10_start_66
abbrev b10_farthest : ByteArray := prog_12_method_5_code
def y10_farthest : MethodName := ⟨cn_10, "farthest", "()I"⟩
theorem d10_farthest_0 : decode b10_farthest 0 = .ok (.iconst 0, 1) := by decide +kernel
theorem d10_farthest_1 : decode b10_farthest 1 = .ok (.istore_n 1, 1) := by decide +kernel
theorem d10_farthest_2 : decode b10_farthest 2 = .ok (.iconst 0, 1) := by decide +kernel
theorem d10_farthest_3 : decode b10_farthest 3 = .ok (.istore_n 2, 1) := by decide +kernel
theorem d10_farthest_4 : decode b10_farthest 4 = .ok (.iload_n 2, 1) := by decide +kernel
theorem d10_farthest_5 : decode b10_farthest 5 = .ok (.aload_n 0, 1) := by decide +kernel
theorem d10_farthest_6 : decode b10_farthest 6 = .ok (.getfield 9, 3) := by decide +kernel
theorem d10_farthest_9 : decode b10_farthest 9 = .ok (.if_icmp .ge 31, 3) := by decide +kernel
theorem d10_farthest_12 : decode b10_farthest 12 = .ok (.iload_n 2, 1) := by decide +kernel
theorem d10_farthest_13 : decode b10_farthest 13 = .ok (.bipush 10, 2) := by decide +kernel
theorem d10_farthest_15 : decode b10_farthest 15 = .ok (.if_icmp .ge 25, 3) := by decide +kernel
theorem d10_farthest_18 : decode b10_farthest 18 = .ok (.iload_n 1, 1) := by decide +kernel
theorem d10_farthest_19 : decode b10_farthest 19 = .ok (.aload_n 0, 1) := by decide +kernel
theorem d10_farthest_20 : decode b10_farthest 20 = .ok (.getfield 19, 3) := by decide +kernel
theorem d10_farthest_23 : decode b10_farthest 23 = .ok (.aload_n 0, 1) := by decide +kernel
theorem d10_farthest_24 : decode b10_farthest 24 = .ok (.getfield 15, 3) := by decide +kernel
theorem d10_farthest_27 : decode b10_farthest 27 = .ok (.iload_n 2, 1) := by decide +kernel
theorem d10_farthest_28 : decode b10_farthest 28 = .ok (.iaload, 1) := by decide +kernel
theorem d10_farthest_29 : decode b10_farthest 29 = .ok (.iaload, 1) := by decide +kernel
theorem d10_farthest_30 : decode b10_farthest 30 = .ok (.invokestatic 65, 3) := by decide +kernel
theorem d10_farthest_33 : decode b10_farthest 33 = .ok (.istore_n 1, 1) := by decide +kernel
theorem d10_farthest_34 : decode b10_farthest 34 = .ok (.iinc 2 1, 3) := by decide +kernel
theorem d10_farthest_37 : decode b10_farthest 37 = .ok (.goto (-33), 3) := by decide +kernel
theorem d10_farthest_40 : decode b10_farthest 40 = .ok (.iload_n 1, 1) := by decide +kernel
theorem d10_farthest_41 : decode b10_farthest 41 = .ok (.ireturn, 1) := by decide +kernel
abbrev b9_max_7cf53 : ByteArray := prog_15_method_65_code
def y9_max_7cf53 : MethodName := ⟨"java/lang/Math", "max", "(II)I"⟩
theorem ml_10_65 : Cond.methodLink cn_10 65 Lib.Math.max.name ∈ ce_cm := ce_cm_of (List.mem_of_getElem? (i := 922) (by decide +kernel)) (by decide +kernel)
theorem mt_Mmax : Cond.static Lib.Math.max.name ∈ ce_cm := ce_cm_of (List.mem_of_getElem? (i := 759) (by decide +kernel)) (by decide +kernel)
theorem mI_M : Cond.initialized "java/lang/Math" ∈ ce_cm := ce_cm_of (List.mem_of_getElem? (i := 108) (by decide +kernel)) (by decide +kernel)
theorem mc_Mmax : Cond.code Lib.Math.max.name Lib.Math.max.code 2 (some .int) ∈ ce_cm := ce_cm_of (List.mem_of_getElem? (i := 760) (by decide +kernel)) (by decide +kernel)
def f10_farthest_b4 (F : Nat) (x1 : Int32) (x2 : Int32) (h : Hp) : Option ((Int32 × Int32 × Hp) ⊕ (Int32 × Hp)) :=
  if (h 40 0) ≤ x2 then
    some (.inr (x1, h))
  else
    if (10 : Int32) ≤ x2 then
      some (.inr (x1, h))
    else
      if ce_in x2 10 = true then
        if ce_in (h 41 (x2).toNatClampNeg) 10 = true then
          some (.inl ((if x1 < (h 42 ((h 41 (x2).toNatClampNeg)).toNatClampNeg) then (h 42 ((h 41 (x2).toNatClampNeg)).toNatClampNeg) else x1), x2 + (1 : Int32), h))
        else none
      else none
set_option maxRecDepth 20000 in
theorem l10_farthest_4 (C : ce_Cx p s m args c meth b10_farthest 3 (some .int) cn_10 D ad cA B0 (ce_St aK aV B0)) (F : Nat)   (r : Int32 × Hp) (g : (Int32 × Hp) → Option (Int32 × Hp)) (hx : ∀ (x1 : Int32) (h : Hp) (H : Heap) (locs : List Loc) (ls : Array Slot), ce_H D ad cA B0 [] s h H locs → lv_has ls 3 [(1, .int x1)] → g (x1, h) = some r → W p l e0 { frames := 1, cells := 0, slots := 0, locals := 24 } s m args below meth c H locs 0 0 (MQ below (ce_Q D ad cA B0 (ce_St aK aV B0) (some (.int r.1)) r.2) args s 0 0 (fun q => B0 ≤ q)) (F0 m 40 ls [])) : ∀ (n : Nat) (x1 : Int32) (x2 : Int32) (h : Hp) (H : Heap) (locs : List Loc) (ls : Array Slot), ce_H D ad cA B0 [] s h H locs → lv_has ls 3 [(0, .ref (ad 40)), (1, .int x1), (2, .int x2)] → Option.bind (ce_it (fun (st : Int32 × Int32 × Hp) => f10_farthest_b4 F  st.1 st.2.1 st.2.2) n (x1, x2, h)) g = some r → W p l e0 { frames := 1, cells := 0, slots := 0, locals := 24 } s m args below meth c H locs 0 0 (MQ below (ce_Q D ad cA B0 (ce_St aK aV B0) (some (.int r.1)) r.2) args s 0 0 (fun q => B0 ≤ q)) (F0 m 4 ls []) := by
  intro n
  induction n with
  | zero =>
    intro x1 x2 h H locs ls hH hl e
    exact absurd e (fun z => by cases z)
  | succ n ih =>
    intro x1 x2 h H locs ls hH hl e
    have hx9 := C.1
    have hb := C.2.1
    have e : Option.bind (f10_farthest_b4 F  x1 x2 h) _ = some r := ce_it_bd e
    unfold f10_farthest_b4 at e
    refine lv_iload_n hx9 hb d10_farthest_4 rfl (lv_at hl 2 rfl) ?_
    refine lv_aload_n hx9 hb d10_farthest_5 rfl (lv_at hl 0 rfl) ?_
    refine gf_10_9 C hH d10_farthest_6 ?_
    refine lv_icmp_ge (tgt := 40) hx9 hb d10_farthest_9 (by decide) (fun hc9 => ?_) (fun hc9 => ?_)
    · have e := ce_if1 e hc9
      exact hx x1 h _ _ _ hH (lv_sub hl [1] rfl) e
    · have e := ce_if0 e hc9
      refine lv_iload_n hx9 hb d10_farthest_12 rfl (lv_at hl 2 rfl) ?_
      refine lv_bipush (v := (10 : Int32)) hx9 hb d10_farthest_13 (by decide) ?_
      refine lv_icmp_ge (tgt := 40) hx9 hb d10_farthest_15 (by decide) (fun hc15 => ?_) (fun hc15 => ?_)
      · have e := ce_if1 e hc15
        exact hx x1 h _ _ _ hH (lv_sub hl [1] rfl) e
      · have e := ce_if0 e hc15
        refine lv_iload_n hx9 hb d10_farthest_18 rfl (lv_at hl 1 rfl) ?_
        refine lv_aload_n hx9 hb d10_farthest_19 rfl (lv_at hl 0 rfl) ?_
        refine gf_10_19 C hH d10_farthest_20 ?_
        refine lv_aload_n hx9 hb d10_farthest_23 rfl (lv_at hl 0 rfl) ?_
        refine gf_10_15 C hH d10_farthest_24 ?_
        refine lv_iload_n hx9 hb d10_farthest_27 rfl (lv_at hl 2 rfl) ?_
        obtain ⟨hi28, e⟩ := ce_gd e
        refine ce_iald C hH lc_41.1 lc_41.2 (ce_in_vp hi28) d10_farthest_28 ?_
        obtain ⟨hi29, e⟩ := ce_gd e
        refine ce_iald C hH lc_42.1 lc_42.2 (ce_in_vp hi29) d10_farthest_29 ?_
        refine va_mmax hx9 hb (C.2.2.1.trans hl.1.symm) C.2.2.2.1 (C.2.2.2.2.1 _ ml_10_65) (C.2.2.2.2.1 _ mt_Mmax) (C.2.2.2.2.1 _ mI_M) (C.2.2.2.2.1 _ mc_Mmax) (Nat.le_of_ble_eq_true rfl) (Nat.le_of_ble_eq_true rfl) (Nat.le_of_ble_eq_true rfl) (Nat.le_of_ble_eq_true rfl) d10_farthest_30 ?_
        refine lv_istore_n (lv' := [(1, .int (if x1 < (h 42 ((h 41 (x2).toNatClampNeg)).toNatClampNeg) then (h 42 ((h 41 (x2).toNatClampNeg)).toNatClampNeg) else x1)), (0, .ref (ad 40)), (2, .int x2)]) hx9 hb d10_farthest_33 rfl hl (by decide) rfl (fun ls hl => ?_)
        refine lv_iinc (v := x2 + (1 : Int32)) (lv' := [(2, .int (x2 + (1 : Int32))), (1, .int (if x1 < (h 42 ((h 41 (x2).toNatClampNeg)).toNatClampNeg) then (h 42 ((h 41 (x2).toNatClampNeg)).toNatClampNeg) else x1)), (0, .ref (ad 40))]) hx9 hb d10_farthest_34 hl (k := 2) rfl rfl (by decide) rfl (fun ls hl => ?_)
        refine lv_goto (tgt := 4) hx9 hb d10_farthest_37 (by decide) ?_
        exact ih (if x1 < (h 42 ((h 41 (x2).toNatClampNeg)).toNatClampNeg) then (h 42 ((h 41 (x2).toNatClampNeg)).toNatClampNeg) else x1) (x2 + (1 : Int32)) h _ _ _ hH (lv_sub hl [2, 1, 0] rfl) e
def f10_farthest (F : Nat)  (h : Hp) : Option (Int32 × Hp) :=
  Option.bind (ce_it (fun (st : Int32 × Int32 × Hp) => f10_farthest_b4 F  st.1 st.2.1 st.2.2) F ((0 : Int32), (0 : Int32), h)) (fun o4 =>
    some (o4.1, o4.2))
set_option maxRecDepth 20000 in
theorem c10_farthest (l : Launch) (D : va_G) (ad : Nat → Nat) (cA : Nat → ClassId) (aK aV : Nat → Nat) (B0 : Nat) (hA : ce_Ad ad B0) (F : Nat)   (h : Hp) (r : Int32 × Hp) (e : f10_farthest F  h = some r) : ce_Ct l D ad cA B0 (ce_St aK aV B0) y10_farthest b10_farthest 3 (some .int) 1 24 0 0 [.ref (ad 40)] h (some (.int r.1)) r.2 := by
  refine ce_enter hA (by decide) rfl (Nat.le_of_ble_eq_true rfl) (fun p e0 s m below meth c ls C hH hl => ?_)
  have hl : lv_has ls 3 [(0, .ref (ad 40))] := hl
  have hx := C.1
  have hb := C.2.1
  have e : Option.bind _ some = some r := (congrArg (fun z => Option.bind z some) e).trans rfl
  unfold f10_farthest at e
  refine lv_iconst (v := (0 : Int32)) hx hb d10_farthest_0 (by decide) ?_
  refine lv_istore_n (lv' := [(1, .int (0 : Int32)), (0, .ref (ad 40))]) hx hb d10_farthest_1 rfl hl (by decide) rfl (fun ls hl => ?_)
  refine lv_iconst (v := (0 : Int32)) hx hb d10_farthest_2 (by decide) ?_
  refine lv_istore_n (lv' := [(2, .int (0 : Int32)), (1, .int (0 : Int32)), (0, .ref (ad 40))]) hx hb d10_farthest_3 rfl hl (by decide) rfl (fun ls hl => ?_)
  refine l10_farthest_4 C F   r _ (fun y4_1 h_4 H locs ls hH hl e => ?_) F (0 : Int32) (0 : Int32) h _ _ _ hH (lv_sub hl [2, 1, 0] rfl) (ce_as e)
  try dsimp only at e
  refine lv_iload_n hx hb d10_farthest_40 rfl (lv_at hl 0 rfl) ?_
  exact ce_iretE C (ce_sok aK aV B0) hH e d10_farthest_41
abbrev b10_isBridge : ByteArray := prog_12_method_6_code
def y10_isBridge : MethodName := ⟨cn_10, "isBridge", "(LCableElection$Net;I)Z"⟩
theorem d10_isBridge_0 : decode b10_isBridge 0 = .ok (.aload_n 1, 1) := by decide +kernel
theorem d10_isBridge_1 : decode b10_isBridge 1 = .ok (.iload_n 2, 1) := by decide +kernel
theorem d10_isBridge_2 : decode b10_isBridge 2 = .ok (.invokevirtual 51, 3) := by decide +kernel
theorem d10_isBridge_5 : decode b10_isBridge 5 = .ok (.ifCond .ne 5, 3) := by decide +kernel
theorem d10_isBridge_8 : decode b10_isBridge 8 = .ok (.iconst 0, 1) := by decide +kernel
theorem d10_isBridge_9 : decode b10_isBridge 9 = .ok (.ireturn, 1) := by decide +kernel
theorem d10_isBridge_10 : decode b10_isBridge 10 = .ok (.aload_n 0, 1) := by decide +kernel
theorem d10_isBridge_11 : decode b10_isBridge 11 = .ok (.aload_n 1, 1) := by decide +kernel
theorem d10_isBridge_12 : decode b10_isBridge 12 = .ok (.iload_n 2, 1) := by decide +kernel
theorem d10_isBridge_13 : decode b10_isBridge 13 = .ok (.invokestatic 58, 3) := by decide +kernel
theorem d10_isBridge_16 : decode b10_isBridge 16 = .ok (.iload_n 2, 1) := by decide +kernel
theorem d10_isBridge_17 : decode b10_isBridge 17 = .ok (.invokevirtual 70, 3) := by decide +kernel
theorem d10_isBridge_20 : decode b10_isBridge 20 = .ok (.aload_n 0, 1) := by decide +kernel
theorem d10_isBridge_21 : decode b10_isBridge 21 = .ok (.getfield 22, 3) := by decide +kernel
theorem d10_isBridge_24 : decode b10_isBridge 24 = .ok (.aload_n 1, 1) := by decide +kernel
theorem d10_isBridge_25 : decode b10_isBridge 25 = .ok (.getfield 55, 3) := by decide +kernel
theorem d10_isBridge_28 : decode b10_isBridge 28 = .ok (.iload_n 2, 1) := by decide +kernel
theorem d10_isBridge_29 : decode b10_isBridge 29 = .ok (.iaload, 1) := by decide +kernel
theorem d10_isBridge_30 : decode b10_isBridge 30 = .ok (.invokestatic 58, 3) := by decide +kernel
theorem d10_isBridge_33 : decode b10_isBridge 33 = .ok (.iaload, 1) := by decide +kernel
theorem d10_isBridge_34 : decode b10_isBridge 34 = .ok (.iconst (-1), 1) := by decide +kernel
theorem d10_isBridge_35 : decode b10_isBridge 35 = .ok (.if_icmp .ne 7, 3) := by decide +kernel
theorem d10_isBridge_38 : decode b10_isBridge 38 = .ok (.iconst 1, 1) := by decide +kernel
theorem d10_isBridge_39 : decode b10_isBridge 39 = .ok (.goto 4, 3) := by decide +kernel
theorem d10_isBridge_42 : decode b10_isBridge 42 = .ok (.iconst 0, 1) := by decide +kernel
theorem d10_isBridge_43 : decode b10_isBridge 43 = .ok (.ireturn, 1) := by decide +kernel
theorem mc10_start : Cond.code y10_start b10_start 5 none ∈ ce_cm := ce_cm_of (List.mem_of_getElem? (i := 701) (by decide +kernel)) (by decide +kernel)
theorem ml_10_70 : Cond.methodLink cn_10 70 y10_start ∈ ce_cm := ce_cm_of (List.mem_of_getElem? (i := 1068) (by decide +kernel)) (by decide +kernel)
theorem mi10_start : Cond.instanceMethod y10_start ∈ ce_cm := ce_cm_of (List.mem_of_getElem? (i := 699) (by decide +kernel)) (by decide +kernel)
theorem ms10_start : Cond.selects cn_10 y10_start y10_start ∈ ce_cm := ce_cm_of (List.mem_of_getElem? (i := 700) (by decide +kernel)) (by decide +kernel)
def f10_isBridge (F : Nat) (k1 : Nat) (x2 : Int32) (h : Hp) : Option (Int32 × Hp) :=
  Option.bind (f5_isCabled F k1 x2 h) (fun o2 =>
    if o2.1 = 0 then
      some ((0 : Int32), o2.2)
    else
      Option.bind (f11_nodeOf F x2 o2.2) (fun o13 =>
        Option.bind (f10_start F k1 o13.1 x2 o13.2) (fun o17 =>
          if ce_in x2 40 = true then
            Option.bind (f11_nodeOf F (o17 (k1 + 5) (x2).toNatClampNeg) o17) (fun o30 =>
              if ce_in o30.1 10 = true then
                if (o30.2 43 (o30.1).toNatClampNeg) = (-1 : Int32) then
                  some ((1 : Int32), o30.2)
                else
                  some ((0 : Int32), o30.2)
              else none)
          else none)))
set_option maxRecDepth 20000 in
theorem c10_isBridge (l : Launch) (D : va_G) (ad : Nat → Nat) (cA : Nat → ClassId) (aK aV : Nat → Nat) (B0 : Nat) (hA : ce_Ad ad B0) (F : Nat) (k1 : Nat) (x2 : Int32) (hk1 : ce_isNet k1) (h : Hp) (r : Int32 × Hp) (e : f10_isBridge F k1 x2 h = some r) : ce_Ct l D ad cA B0 (ce_St aK aV B0) y10_isBridge b10_isBridge 3 (some .boolean) 3 73 0 0 [.ref (ad 40), .ref (ad k1), .int x2] h (some (.int r.1)) r.2 := by
  refine ce_enter hA (by decide) rfl (Nat.le_of_ble_eq_true rfl) (fun p e0 s m below meth c ls C hH hl => ?_)
  have hl : lv_has ls 3 [(0, .ref (ad 40)), (1, .ref (ad k1)), (2, .int x2)] := hl
  have hx := C.1
  have hb := C.2.1
  have e : Option.bind _ some = some r := (congrArg (fun z => Option.bind z some) e).trans rfl
  unfold f10_isBridge at e
  refine lv_aload_n hx hb d10_isBridge_0 rfl (lv_at hl 1 rfl) ?_
  refine lv_iload_n hx hb d10_isBridge_1 rfl (lv_at hl 2 rfl) ?_
  obtain ⟨o2, eo2, e⟩ := ce_bd e
  refine ce_callV (As := [.int x2]) (rest := []) C (ce_sok aK aV B0) hH (c5_isCabled l D ad cA aK aV B0 C.2.2.2.2.2.2.1 F k1 x2 hk1 h o2 eo2) (lk_Net hk1).1 (lk_Net hk1).2.choose_spec rfl rfl mc5_isCabled ml_10_51 mi5_isCabled ms5_isCabled mI_5 (n := 1) (by decide) rfl ⟨Nat.le_of_ble_eq_true rfl, Nat.le_of_ble_eq_true rfl⟩ ⟨Nat.le_of_ble_eq_true rfl, Nat.le_of_ble_eq_true rfl⟩ hl.1 rfl (Nat.le_of_ble_eq_true rfl) d10_isBridge_2 (fun H locs hH => ?_)
  refine W.eq (g2 := F0 m 5 ls [.int o2.1]) rfl ?_
  refine lv_if_ne (tgt := 10) hx hb d10_isBridge_5 (by decide) (fun hc5 => ?_) (fun hc5 => ?_)
  · have e := ce_if0 e hc5
    refine lv_aload_n hx hb d10_isBridge_10 rfl (lv_at hl 0 rfl) ?_
    refine lv_aload_n hx hb d10_isBridge_11 rfl (lv_at hl 1 rfl) ?_
    refine lv_iload_n hx hb d10_isBridge_12 rfl (lv_at hl 2 rfl) ?_
    obtain ⟨o13, eo13, e⟩ := ce_bd e
    refine ce_callN (As := [.int x2]) (rest := [.ref (ad k1), .ref (ad 40)]) C (ce_sok aK aV B0) hH (c11_nodeOf l D ad cA aK aV B0 C.2.2.2.2.2.2.1 F x2  o2.2 o13 eo13) mc11_nodeOf (ce_nwW C.2.2.2.2.2.2.2.2.2.2 13 rfl) mt11_nodeOf mI_11 (n := 1) (by decide) rfl ⟨Nat.le_of_ble_eq_true rfl, Nat.le_of_ble_eq_true rfl⟩ ⟨Nat.le_of_ble_eq_true rfl, Nat.le_of_ble_eq_true rfl⟩ hl.1 rfl (Nat.le_of_ble_eq_true rfl) d10_isBridge_13 (fun H locs hH => ?_)
    refine W.eq (g2 := F0 m 16 ls [.int o13.1, .ref (ad k1), .ref (ad 40)]) rfl ?_
    refine lv_iload_n hx hb d10_isBridge_16 rfl (lv_at hl 2 rfl) ?_
    obtain ⟨o17, eo17, e⟩ := ce_bd e
    refine ce_callV (As := [.ref (ad k1), .int o13.1, .int x2]) (rest := []) C (ce_sok aK aV B0) hH (c10_start l D ad cA aK aV B0 C.2.2.2.2.2.2.1 F k1 o13.1 x2 hk1 o13.2 o17 eo17) lo_40.1 lo_40.2.choose_spec rfl rfl mc10_start ml_10_70 mi10_start ms10_start mI_10 (n := 3) (by decide) rfl ⟨Nat.le_of_ble_eq_true rfl, Nat.le_of_ble_eq_true rfl⟩ ⟨Nat.le_of_ble_eq_true rfl, Nat.le_of_ble_eq_true rfl⟩ hl.1 rfl (Nat.le_of_ble_eq_true rfl) d10_isBridge_17 (fun H locs hH => ?_)
    refine W.eq (g2 := F0 m 20 ls []) rfl ?_
    refine lv_aload_n hx hb d10_isBridge_20 rfl (lv_at hl 0 rfl) ?_
    refine gf_10_22 C hH d10_isBridge_21 ?_
    refine lv_aload_n hx hb d10_isBridge_24 rfl (lv_at hl 1 rfl) ?_
    refine gf_10_55 C hH hk1 d10_isBridge_25 ?_
    refine lv_iload_n hx hb d10_isBridge_28 rfl (lv_at hl 2 rfl) ?_
    obtain ⟨hi29, e⟩ := ce_gd e
    refine ce_iald C hH (la_Net_5 hk1).1 (la_Net_5 hk1).2 (ce_in_vp hi29) d10_isBridge_29 ?_
    obtain ⟨o30, eo30, e⟩ := ce_bd e
    refine ce_callN (As := [.int (o17 (k1 + 5) (x2).toNatClampNeg)]) (rest := [.ref (ad 43)]) C (ce_sok aK aV B0) hH (c11_nodeOf l D ad cA aK aV B0 C.2.2.2.2.2.2.1 F (o17 (k1 + 5) (x2).toNatClampNeg)  o17 o30 eo30) mc11_nodeOf (ce_nwW C.2.2.2.2.2.2.2.2.2.2 13 rfl) mt11_nodeOf mI_11 (n := 1) (by decide) rfl ⟨Nat.le_of_ble_eq_true rfl, Nat.le_of_ble_eq_true rfl⟩ ⟨Nat.le_of_ble_eq_true rfl, Nat.le_of_ble_eq_true rfl⟩ hl.1 rfl (Nat.le_of_ble_eq_true rfl) d10_isBridge_30 (fun H locs hH => ?_)
    refine W.eq (g2 := F0 m 33 ls [.int o30.1, .ref (ad 43)]) rfl ?_
    obtain ⟨hi33, e⟩ := ce_gd e
    refine ce_iald C hH lc_43.1 lc_43.2 (ce_in_vp hi33) d10_isBridge_33 ?_
    refine lv_iconst (v := (-1 : Int32)) hx hb d10_isBridge_34 (by decide) ?_
    refine lv_icmp_ne (tgt := 42) hx hb d10_isBridge_35 (by decide) (fun hc35 => ?_) (fun hc35 => ?_)
    · have e := ce_if0 e hc35
      refine lv_iconst (v := (0 : Int32)) hx hb d10_isBridge_42 (by decide) ?_
      exact ce_zretE C (ce_sok aK aV B0) hH (Or.inl rfl) e d10_isBridge_43
    · have e := ce_if1 e hc35
      refine lv_iconst (v := (1 : Int32)) hx hb d10_isBridge_38 (by decide) ?_
      refine lv_goto (tgt := 43) hx hb d10_isBridge_39 (by decide) ?_
      exact ce_zretE C (ce_sok aK aV B0) hH (Or.inr rfl) e d10_isBridge_43
  · have e := ce_if1 e hc5
    refine lv_iconst (v := (0 : Int32)) hx hb d10_isBridge_8 (by decide) ?_
    exact ce_zretE C (ce_sok aK aV B0) hH (Or.inl rfl) e d10_isBridge_9
abbrev b2_markOne : ByteArray := prog_4_method_3_code
def y2_markOne : MethodName := ⟨cn_2, "markOne", "(LCableElection$Net;LCableElection$Walk;I)V"⟩
theorem d2_markOne_0 : decode b2_markOne 0 = .ok (.iconst 0, 1) := by decide +kernel
theorem d2_markOne_1 : decode b2_markOne 1 = .ok (.istore 4, 2) := by decide +kernel
theorem d2_markOne_3 : decode b2_markOne 3 = .ok (.iconst 0, 1) := by decide +kernel
theorem d2_markOne_4 : decode b2_markOne 4 = .ok (.istore 5, 2) := by decide +kernel
theorem d2_markOne_6 : decode b2_markOne 6 = .ok (.iload 5, 2) := by decide +kernel
theorem d2_markOne_8 : decode b2_markOne 8 = .ok (.aload_n 2, 1) := by decide +kernel
theorem d2_markOne_9 : decode b2_markOne 9 = .ok (.getfield 49, 3) := by decide +kernel
theorem d2_markOne_12 : decode b2_markOne 12 = .ok (.if_icmp .ge 71, 3) := by decide +kernel
theorem d2_markOne_15 : decode b2_markOne 15 = .ok (.iload 5, 2) := by decide +kernel
theorem d2_markOne_17 : decode b2_markOne 17 = .ok (.bipush 10, 2) := by decide +kernel
theorem d2_markOne_19 : decode b2_markOne 19 = .ok (.if_icmp .ge 64, 3) := by decide +kernel
theorem d2_markOne_22 : decode b2_markOne 22 = .ok (.aload_n 2, 1) := by decide +kernel
theorem d2_markOne_23 : decode b2_markOne 23 = .ok (.getfield 52, 3) := by decide +kernel
theorem d2_markOne_26 : decode b2_markOne 26 = .ok (.iload 5, 2) := by decide +kernel
theorem d2_markOne_28 : decode b2_markOne 28 = .ok (.iaload, 1) := by decide +kernel
theorem d2_markOne_29 : decode b2_markOne 29 = .ok (.istore 6, 2) := by decide +kernel
theorem d2_markOne_31 : decode b2_markOne 31 = .ok (.aload_n 0, 1) := by decide +kernel
theorem d2_markOne_32 : decode b2_markOne 32 = .ok (.getfield 18, 3) := by decide +kernel
theorem d2_markOne_35 : decode b2_markOne 35 = .ok (.iload 6, 2) := by decide +kernel
theorem d2_markOne_37 : decode b2_markOne 37 = .ok (.iload_n 3, 1) := by decide +kernel
theorem d2_markOne_38 : decode b2_markOne 38 = .ok (.iastore, 1) := by decide +kernel
theorem d2_markOne_39 : decode b2_markOne 39 = .ok (.iconst 0, 1) := by decide +kernel
theorem d2_markOne_40 : decode b2_markOne 40 = .ok (.istore 7, 2) := by decide +kernel
theorem d2_markOne_42 : decode b2_markOne 42 = .ok (.iload 7, 2) := by decide +kernel
theorem d2_markOne_44 : decode b2_markOne 44 = .ok (.aload_n 1, 1) := by decide +kernel
theorem d2_markOne_45 : decode b2_markOne 45 = .ok (.getfield 55, 3) := by decide +kernel
theorem d2_markOne_48 : decode b2_markOne 48 = .ok (.iload 6, 2) := by decide +kernel
theorem d2_markOne_50 : decode b2_markOne 50 = .ok (.iaload, 1) := by decide +kernel
theorem d2_markOne_51 : decode b2_markOne 51 = .ok (.if_icmp .ge 26, 3) := by decide +kernel
theorem d2_markOne_54 : decode b2_markOne 54 = .ok (.aload_n 1, 1) := by decide +kernel
theorem d2_markOne_55 : decode b2_markOne 55 = .ok (.iload 6, 2) := by decide +kernel
theorem d2_markOne_57 : decode b2_markOne 57 = .ok (.iload 7, 2) := by decide +kernel
theorem d2_markOne_59 : decode b2_markOne 59 = .ok (.invokestatic 58, 3) := by decide +kernel
theorem d2_markOne_62 : decode b2_markOne 62 = .ok (.invokevirtual 62, 3) := by decide +kernel
theorem d2_markOne_65 : decode b2_markOne 65 = .ok (.ifCond .eq 6, 3) := by decide +kernel
theorem d2_markOne_68 : decode b2_markOne 68 = .ok (.iinc 4 1, 3) := by decide +kernel
theorem d2_markOne_71 : decode b2_markOne 71 = .ok (.iinc 7 1, 3) := by decide +kernel
theorem d2_markOne_74 : decode b2_markOne 74 = .ok (.goto (-32), 3) := by decide +kernel
theorem d2_markOne_77 : decode b2_markOne 77 = .ok (.iinc 5 1, 3) := by decide +kernel
theorem d2_markOne_80 : decode b2_markOne 80 = .ok (.goto (-74), 3) := by decide +kernel
theorem d2_markOne_83 : decode b2_markOne 83 = .ok (.aload_n 0, 1) := by decide +kernel
theorem d2_markOne_84 : decode b2_markOne 84 = .ok (.getfield 22, 3) := by decide +kernel
theorem d2_markOne_87 : decode b2_markOne 87 = .ok (.iload_n 3, 1) := by decide +kernel
theorem d2_markOne_88 : decode b2_markOne 88 = .ok (.aload_n 2, 1) := by decide +kernel
theorem d2_markOne_89 : decode b2_markOne 89 = .ok (.getfield 49, 3) := by decide +kernel
theorem d2_markOne_92 : decode b2_markOne 92 = .ok (.iastore, 1) := by decide +kernel
theorem d2_markOne_93 : decode b2_markOne 93 = .ok (.aload_n 0, 1) := by decide +kernel
theorem d2_markOne_94 : decode b2_markOne 94 = .ok (.getfield 25, 3) := by decide +kernel
theorem d2_markOne_97 : decode b2_markOne 97 = .ok (.iload_n 3, 1) := by decide +kernel
theorem d2_markOne_98 : decode b2_markOne 98 = .ok (.iload 4, 2) := by decide +kernel
theorem d2_markOne_100 : decode b2_markOne 100 = .ok (.iconst 2, 1) := by decide +kernel
theorem d2_markOne_101 : decode b2_markOne 101 = .ok (.idiv, 1) := by decide +kernel
theorem d2_markOne_102 : decode b2_markOne 102 = .ok (.iastore, 1) := by decide +kernel
theorem d2_markOne_103 : decode b2_markOne 103 = .ok (.aload_n 0, 1) := by decide +kernel
theorem d2_markOne_104 : decode b2_markOne 104 = .ok (.dup, 1) := by decide +kernel
theorem d2_markOne_105 : decode b2_markOne 105 = .ok (.getfield 9, 3) := by decide +kernel
theorem d2_markOne_108 : decode b2_markOne 108 = .ok (.iconst 1, 1) := by decide +kernel
theorem d2_markOne_109 : decode b2_markOne 109 = .ok (.iadd, 1) := by decide +kernel
theorem d2_markOne_110 : decode b2_markOne 110 = .ok (.putfield 9, 3) := by decide +kernel
theorem d2_markOne_113 : decode b2_markOne 113 = .ok (.iload 4, 2) := by decide +kernel
theorem d2_markOne_115 : decode b2_markOne 115 = .ok (.iconst 2, 1) := by decide +kernel
theorem d2_markOne_116 : decode b2_markOne 116 = .ok (.idiv, 1) := by decide +kernel
theorem d2_markOne_117 : decode b2_markOne 117 = .ok (.aload_n 2, 1) := by decide +kernel
theorem d2_markOne_118 : decode b2_markOne 118 = .ok (.getfield 49, 3) := by decide +kernel
theorem d2_markOne_121 : decode b2_markOne 121 = .ok (.if_icmp .lt 13, 3) := by decide +kernel
theorem d2_markOne_124 : decode b2_markOne 124 = .ok (.aload_n 0, 1) := by decide +kernel
theorem d2_markOne_125 : decode b2_markOne 125 = .ok (.dup, 1) := by decide +kernel
theorem d2_markOne_126 : decode b2_markOne 126 = .ok (.getfield 15, 3) := by decide +kernel
theorem d2_markOne_129 : decode b2_markOne 129 = .ok (.iconst 1, 1) := by decide +kernel
theorem d2_markOne_130 : decode b2_markOne 130 = .ok (.iadd, 1) := by decide +kernel
theorem d2_markOne_131 : decode b2_markOne 131 = .ok (.putfield 15, 3) := by decide +kernel
theorem d2_markOne_134 : decode b2_markOne 134 = .ok (.return_, 1) := by decide +kernel
theorem fl_2_49 : Cond.fieldLink cn_2 49 (ft_10 0).1 (ft_10 0).2.1 (ft_10 0).2.2.1 ∈ ce_cm := ce_cm_of (List.mem_of_getElem? (i := 332) (by decide +kernel)) (by decide +kernel)
theorem gf_2_49 (C : ce_Cx p s m args c meth cc nL ret cn_2 D ad cA B0 (ce_St aK aV B0)) (hH : ce_H D ad cA B0 X s h H locs) (hdg : decode cc pc = .ok (.getfield 49, 3)) (kk : W p l e0 R s m args below meth c H locs cells slots Q (F0 m (pc + 3) ls (.int (h 40 0) :: rest))) : W p l e0 R s m args below meth c H locs cells slots Q (F0 m pc ls (.ref (ad 40) :: rest)) := by
  exact ce_get C hH (k := 40) (ci := 10) (j := 0) (N := 4) (sj := none) (by decide) rfl rfl fw_10 (by decide) fl_2_49 rfl hdg kk
theorem pf_2_49 (C : ce_Cx p s m args c meth cc nL ret cn_2 D ad cA B0 (ce_St aK aV B0)) (hH : ce_H D ad cA B0 X s h H locs) {x : Int32} (hdg : decode cc pc = .ok (.putfield 49, 3)) (kk : ∀ (H1 : Heap) (locs1 : List Loc), ce_H D ad cA B0 X s (hp_up h 40 0 x) H1 locs1 → W p l e0 R s m args below meth c H1 locs1 cells slots Q (F0 m (pc + 3) ls rest)) : W p l e0 R s m args below meth c H locs cells slots Q (F0 m pc ls (.int x :: .ref (ad 40) :: rest)) := by
  exact ce_put C hH (k := 40) (ci := 10) (j := 0) (N := 4) (fy := fy_10) (sj := none) x (by decide) rfl rfl fw_10 fo_10 fn_10 (by decide) fl_2_49 rfl rfl (v := .int x) (by simp [ce_slot, upd]) rfl rfl hdg kk
theorem fl_2_52 : Cond.fieldLink cn_2 52 (ft_10 1).1 (ft_10 1).2.1 (ft_10 1).2.2.1 ∈ ce_cm := ce_cm_of (List.mem_of_getElem? (i := 335) (by decide +kernel)) (by decide +kernel)
theorem gf_2_52 (C : ce_Cx p s m args c meth cc nL ret cn_2 D ad cA B0 (ce_St aK aV B0)) (hH : ce_H D ad cA B0 X s h H locs) (hdg : decode cc pc = .ok (.getfield 52, 3)) (kk : W p l e0 R s m args below meth c H locs cells slots Q (F0 m (pc + 3) ls (.ref (ad 41) :: rest))) : W p l e0 R s m args below meth c H locs cells slots Q (F0 m pc ls (.ref (ad 40) :: rest)) := by
  exact ce_get C hH (k := 40) (ci := 10) (j := 1) (N := 4) (sj := some (some 41)) (by decide) rfl rfl fw_10 (by decide) fl_2_52 rfl hdg kk
theorem fl_2_18 : Cond.fieldLink cn_2 18 (ft_2 2).1 (ft_2 2).2.1 (ft_2 2).2.2.1 ∈ ce_cm := ce_cm_of (List.mem_of_getElem? (i := 359) (by decide +kernel)) (by decide +kernel)
theorem gf_2_18 (C : ce_Cx p s m args c meth cc nL ret cn_2 D ad cA B0 (ce_St aK aV B0)) (hH : ce_H D ad cA B0 X s h H locs) (hdg : decode cc pc = .ok (.getfield 18, 3)) (kk : W p l e0 R s m args below meth c H locs cells slots Q (F0 m (pc + 3) ls (.ref (ad 45) :: rest))) : W p l e0 R s m args below meth c H locs cells slots Q (F0 m pc ls (.ref (ad 44) :: rest)) := by
  exact ce_get C hH (k := 44) (ci := 2) (j := 2) (N := 5) (sj := some (some 45)) (by decide) rfl rfl fw_2 (by decide) fl_2_18 rfl hdg kk
theorem lc_45 : 45 < 96 ∧ ce_lay 45 = .inl (0, 10) := ⟨by decide, rfl⟩
theorem fl_2_55 : Cond.fieldLink cn_2 55 (ft_5 5).1 (ft_5 5).2.1 (ft_5 5).2.2.1 ∈ ce_cm := ce_cm_of (List.mem_of_getElem? (i := 215) (by decide +kernel)) (by decide +kernel)
theorem gf_2_55 (C : ce_Cx p s m args c meth cc nL ret cn_2 D ad cA B0 (ce_St aK aV B0)) (hH : ce_H D ad cA B0 X s h H locs) {k : Nat} (hk : ce_isNet k) (hdg : decode cc pc = .ok (.getfield 55, 3)) (kk : W p l e0 R s m args below meth c H locs cells slots Q (F0 m (pc + 3) ls (.ref (ad (k + 1)) :: rest))) : W p l e0 R s m args below meth c H locs cells slots Q (F0 m pc ls (.ref (ad k) :: rest)) := by
  rcases hk with rfl | rfl
  · exact ce_get C hH (k := 7) (ci := 5) (j := 5) (N := 11) (sj := some (some 8)) (by decide) rfl rfl fw_5 (by decide) fl_2_55 rfl hdg kk
  · exact ce_get C hH (k := 14) (ci := 5) (j := 5) (N := 11) (sj := some (some 15)) (by decide) rfl rfl fw_5 (by decide) fl_2_55 rfl hdg kk
theorem ml_2_62 : Cond.methodLink cn_2 62 y5_isCabled ∈ ce_cm := ce_cm_of (List.mem_of_getElem? (i := 721) (by decide +kernel)) (by decide +kernel)
theorem fl_2_22 : Cond.fieldLink cn_2 22 (ft_2 3).1 (ft_2 3).2.1 (ft_2 3).2.2.1 ∈ ce_cm := ce_cm_of (List.mem_of_getElem? (i := 360) (by decide +kernel)) (by decide +kernel)
theorem gf_2_22 (C : ce_Cx p s m args c meth cc nL ret cn_2 D ad cA B0 (ce_St aK aV B0)) (hH : ce_H D ad cA B0 X s h H locs) (hdg : decode cc pc = .ok (.getfield 22, 3)) (kk : W p l e0 R s m args below meth c H locs cells slots Q (F0 m (pc + 3) ls (.ref (ad 46) :: rest))) : W p l e0 R s m args below meth c H locs cells slots Q (F0 m pc ls (.ref (ad 44) :: rest)) := by
  exact ce_get C hH (k := 44) (ci := 2) (j := 3) (N := 5) (sj := some (some 46)) (by decide) rfl rfl fw_2 (by decide) fl_2_22 rfl hdg kk
theorem lc_46 : 46 < 96 ∧ ce_lay 46 = .inl (0, 10) := ⟨by decide, rfl⟩
theorem fl_2_25 : Cond.fieldLink cn_2 25 (ft_2 4).1 (ft_2 4).2.1 (ft_2 4).2.2.1 ∈ ce_cm := ce_cm_of (List.mem_of_getElem? (i := 361) (by decide +kernel)) (by decide +kernel)
theorem gf_2_25 (C : ce_Cx p s m args c meth cc nL ret cn_2 D ad cA B0 (ce_St aK aV B0)) (hH : ce_H D ad cA B0 X s h H locs) (hdg : decode cc pc = .ok (.getfield 25, 3)) (kk : W p l e0 R s m args below meth c H locs cells slots Q (F0 m (pc + 3) ls (.ref (ad 47) :: rest))) : W p l e0 R s m args below meth c H locs cells slots Q (F0 m pc ls (.ref (ad 44) :: rest)) := by
  exact ce_get C hH (k := 44) (ci := 2) (j := 4) (N := 5) (sj := some (some 47)) (by decide) rfl rfl fw_2 (by decide) fl_2_25 rfl hdg kk
theorem lc_47 : 47 < 96 ∧ ce_lay 47 = .inl (0, 10) := ⟨by decide, rfl⟩
theorem fl_2_9 : Cond.fieldLink cn_2 9 (ft_2 0).1 (ft_2 0).2.1 (ft_2 0).2.2.1 ∈ ce_cm := ce_cm_of (List.mem_of_getElem? (i := 355) (by decide +kernel)) (by decide +kernel)
theorem gf_2_9 (C : ce_Cx p s m args c meth cc nL ret cn_2 D ad cA B0 (ce_St aK aV B0)) (hH : ce_H D ad cA B0 X s h H locs) (hdg : decode cc pc = .ok (.getfield 9, 3)) (kk : W p l e0 R s m args below meth c H locs cells slots Q (F0 m (pc + 3) ls (.int (h 44 0) :: rest))) : W p l e0 R s m args below meth c H locs cells slots Q (F0 m pc ls (.ref (ad 44) :: rest)) := by
  exact ce_get C hH (k := 44) (ci := 2) (j := 0) (N := 5) (sj := none) (by decide) rfl rfl fw_2 (by decide) fl_2_9 rfl hdg kk
theorem pf_2_9 (C : ce_Cx p s m args c meth cc nL ret cn_2 D ad cA B0 (ce_St aK aV B0)) (hH : ce_H D ad cA B0 X s h H locs) {x : Int32} (hdg : decode cc pc = .ok (.putfield 9, 3)) (kk : ∀ (H1 : Heap) (locs1 : List Loc), ce_H D ad cA B0 X s (hp_up h 44 0 x) H1 locs1 → W p l e0 R s m args below meth c H1 locs1 cells slots Q (F0 m (pc + 3) ls rest)) : W p l e0 R s m args below meth c H locs cells slots Q (F0 m pc ls (.int x :: .ref (ad 44) :: rest)) := by
  exact ce_put C hH (k := 44) (ci := 2) (j := 0) (N := 5) (fy := fy_2) (sj := none) x (by decide) rfl rfl fw_2 fo_2 fn_2 (by decide) fl_2_9 rfl rfl (v := .int x) (by simp [ce_slot, upd]) rfl rfl hdg kk
theorem fl_2_15 : Cond.fieldLink cn_2 15 (ft_2 1).1 (ft_2 1).2.1 (ft_2 1).2.2.1 ∈ ce_cm := ce_cm_of (List.mem_of_getElem? (i := 357) (by decide +kernel)) (by decide +kernel)
theorem gf_2_15 (C : ce_Cx p s m args c meth cc nL ret cn_2 D ad cA B0 (ce_St aK aV B0)) (hH : ce_H D ad cA B0 X s h H locs) (hdg : decode cc pc = .ok (.getfield 15, 3)) (kk : W p l e0 R s m args below meth c H locs cells slots Q (F0 m (pc + 3) ls (.int (h 44 1) :: rest))) : W p l e0 R s m args below meth c H locs cells slots Q (F0 m pc ls (.ref (ad 44) :: rest)) := by
  exact ce_get C hH (k := 44) (ci := 2) (j := 1) (N := 5) (sj := none) (by decide) rfl rfl fw_2 (by decide) fl_2_15 rfl hdg kk
theorem pf_2_15 (C : ce_Cx p s m args c meth cc nL ret cn_2 D ad cA B0 (ce_St aK aV B0)) (hH : ce_H D ad cA B0 X s h H locs) {x : Int32} (hdg : decode cc pc = .ok (.putfield 15, 3)) (kk : ∀ (H1 : Heap) (locs1 : List Loc), ce_H D ad cA B0 X s (hp_up h 44 1 x) H1 locs1 → W p l e0 R s m args below meth c H1 locs1 cells slots Q (F0 m (pc + 3) ls rest)) : W p l e0 R s m args below meth c H locs cells slots Q (F0 m pc ls (.int x :: .ref (ad 44) :: rest)) := by
  exact ce_put C hH (k := 44) (ci := 2) (j := 1) (N := 5) (fy := fy_2) (sj := none) x (by decide) rfl rfl fw_2 fo_2 fn_2 (by decide) fl_2_15 rfl rfl (v := .int x) (by simp [ce_slot, upd]) rfl rfl hdg kk
def f2_markOne_b42 (F : Nat) (k1 : Nat) (x3 : Int32) (x5 : Int32) (x6 : Int32) (x4 : Int32) (x7 : Int32) (h : Hp) : Option ((Int32 × Int32 × Hp) ⊕ (Int32 × Hp)) :=
  if ce_in x6 10 = true then
    if (h (k1 + 1) (x6).toNatClampNeg) ≤ x7 then
      some (.inr (x4, h))
    else
      Option.bind (f11_endOf F x6 x7 h) (fun o59 =>
        Option.bind (f5_isCabled F k1 o59.1 o59.2) (fun o62 =>
          if o62.1 = 0 then
            some (.inl (x4, x7 + (1 : Int32), o62.2))
          else
            some (.inl (x4 + (1 : Int32), x7 + (1 : Int32), o62.2))))
  else none
set_option maxRecDepth 20000 in
theorem l2_markOne_42 (C : ce_Cx p s m args c meth b2_markOne 8 none cn_2 D ad cA B0 (ce_St aK aV B0)) (F : Nat) (k1 : Nat) (x3 : Int32) (x5 : Int32) (x6 : Int32) (hk1 : ce_isNet k1) (r : Hp) (g : (Int32 × Hp) → Option (Hp)) (hx : ∀ (x4 : Int32) (h : Hp) (H : Heap) (locs : List Loc) (ls : Array Slot), ce_H D ad cA B0 [] s h H locs → lv_has ls 8 [(0, .ref (ad 44)), (1, .ref (ad k1)), (2, .ref (ad 40)), (3, .int x3), (4, .int x4), (5, .int x5)] → g (x4, h) = some r → W p l e0 { frames := 1, cells := 0, slots := 0, locals := 21 } s m args below meth c H locs 0 0 (MQ below (ce_Q D ad cA B0 (ce_St aK aV B0) none r) args s 0 0 (fun q => B0 ≤ q)) (F0 m 77 ls [])) : ∀ (n : Nat) (x4 : Int32) (x7 : Int32) (h : Hp) (H : Heap) (locs : List Loc) (ls : Array Slot), ce_H D ad cA B0 [] s h H locs → lv_has ls 8 [(0, .ref (ad 44)), (1, .ref (ad k1)), (2, .ref (ad 40)), (3, .int x3), (4, .int x4), (5, .int x5), (6, .int x6), (7, .int x7)] → Option.bind (ce_it (fun (st : Int32 × Int32 × Hp) => f2_markOne_b42 F k1 x3 x5 x6 st.1 st.2.1 st.2.2) n (x4, x7, h)) g = some r → W p l e0 { frames := 1, cells := 0, slots := 0, locals := 21 } s m args below meth c H locs 0 0 (MQ below (ce_Q D ad cA B0 (ce_St aK aV B0) none r) args s 0 0 (fun q => B0 ≤ q)) (F0 m 42 ls []) := by
  intro n
  induction n with
  | zero =>
    intro x4 x7 h H locs ls hH hl e
    exact absurd e (fun z => by cases z)
  | succ n ih =>
    intro x4 x7 h H locs ls hH hl e
    have hx9 := C.1
    have hb := C.2.1
    have e : Option.bind (f2_markOne_b42 F k1 x3 x5 x6 x4 x7 h) _ = some r := ce_it_bd e
    unfold f2_markOne_b42 at e
    refine lv_iload hx9 hb d2_markOne_42 (lv_at hl 7 rfl) ?_
    refine lv_aload_n hx9 hb d2_markOne_44 rfl (lv_at hl 1 rfl) ?_
    refine gf_2_55 C hH hk1 d2_markOne_45 ?_
    refine lv_iload hx9 hb d2_markOne_48 (lv_at hl 6 rfl) ?_
    obtain ⟨hi50, e⟩ := ce_gd e
    refine ce_iald C hH (la_Net_1 hk1).1 (la_Net_1 hk1).2 (ce_in_vp hi50) d2_markOne_50 ?_
    refine lv_icmp_ge (tgt := 77) hx9 hb d2_markOne_51 (by decide) (fun hc51 => ?_) (fun hc51 => ?_)
    · have e := ce_if1 e hc51
      exact hx x4 h _ _ _ hH (lv_sub hl [0, 1, 2, 3, 4, 5] rfl) e
    · have e := ce_if0 e hc51
      refine lv_aload_n hx9 hb d2_markOne_54 rfl (lv_at hl 1 rfl) ?_
      refine lv_iload hx9 hb d2_markOne_55 (lv_at hl 6 rfl) ?_
      refine lv_iload hx9 hb d2_markOne_57 (lv_at hl 7 rfl) ?_
      obtain ⟨o59, eo59, e⟩ := ce_bd e
      refine ce_callN (As := [.int x6, .int x7]) (rest := [.ref (ad k1)]) C (ce_sok aK aV B0) hH (c11_endOf l D ad cA aK aV B0 C.2.2.2.2.2.2.1 F x6 x7  h o59 eo59) mc11_endOf (ce_nwW C.2.2.2.2.2.2.2.2.2.2 14 rfl) mt11_endOf mI_11 (n := 2) (by decide) rfl ⟨Nat.le_of_ble_eq_true rfl, Nat.le_of_ble_eq_true rfl⟩ ⟨Nat.le_of_ble_eq_true rfl, Nat.le_of_ble_eq_true rfl⟩ hl.1 rfl (Nat.le_of_ble_eq_true rfl) d2_markOne_59 (fun H locs hH => ?_)
      refine W.eq (g2 := F0 m 62 ls [.int o59.1, .ref (ad k1)]) rfl ?_
      obtain ⟨o62, eo62, e⟩ := ce_bd e
      refine ce_callV (As := [.int o59.1]) (rest := []) C (ce_sok aK aV B0) hH (c5_isCabled l D ad cA aK aV B0 C.2.2.2.2.2.2.1 F k1 o59.1 hk1 o59.2 o62 eo62) (lk_Net hk1).1 (lk_Net hk1).2.choose_spec rfl rfl mc5_isCabled ml_2_62 mi5_isCabled ms5_isCabled mI_5 (n := 1) (by decide) rfl ⟨Nat.le_of_ble_eq_true rfl, Nat.le_of_ble_eq_true rfl⟩ ⟨Nat.le_of_ble_eq_true rfl, Nat.le_of_ble_eq_true rfl⟩ hl.1 rfl (Nat.le_of_ble_eq_true rfl) d2_markOne_62 (fun H locs hH => ?_)
      refine W.eq (g2 := F0 m 65 ls [.int o62.1]) rfl ?_
      refine lv_if_eq (tgt := 71) hx9 hb d2_markOne_65 (by decide) (fun hc65 => ?_) (fun hc65 => ?_)
      · have e := ce_if1 e hc65
        refine lv_iinc (v := x7 + (1 : Int32)) (lv' := [(7, .int (x7 + (1 : Int32))), (0, .ref (ad 44)), (1, .ref (ad k1)), (2, .ref (ad 40)), (3, .int x3), (4, .int x4), (5, .int x5), (6, .int x6)]) hx9 hb d2_markOne_71 hl (k := 7) rfl rfl (by decide) rfl (fun ls hl => ?_)
        refine lv_goto (tgt := 42) hx9 hb d2_markOne_74 (by decide) ?_
        exact ih x4 (x7 + (1 : Int32)) o62.2 _ _ _ hH (lv_sub hl [1, 2, 3, 4, 5, 6, 7, 0] rfl) e
      · have e := ce_if0 e hc65
        refine lv_iinc (v := x4 + (1 : Int32)) (lv' := [(4, .int (x4 + (1 : Int32))), (0, .ref (ad 44)), (1, .ref (ad k1)), (2, .ref (ad 40)), (3, .int x3), (5, .int x5), (6, .int x6), (7, .int x7)]) hx9 hb d2_markOne_68 hl (k := 4) rfl rfl (by decide) rfl (fun ls hl => ?_)
        refine lv_iinc (v := x7 + (1 : Int32)) (lv' := [(7, .int (x7 + (1 : Int32))), (4, .int (x4 + (1 : Int32))), (0, .ref (ad 44)), (1, .ref (ad k1)), (2, .ref (ad 40)), (3, .int x3), (5, .int x5), (6, .int x6)]) hx9 hb d2_markOne_71 hl (k := 7) rfl rfl (by decide) rfl (fun ls hl => ?_)
        refine lv_goto (tgt := 42) hx9 hb d2_markOne_74 (by decide) ?_
        exact ih (x4 + (1 : Int32)) (x7 + (1 : Int32)) o62.2 _ _ _ hH (lv_sub hl [2, 3, 4, 5, 1, 6, 7, 0] rfl) e
def f2_markOne_b6 (F : Nat) (k1 : Nat) (x3 : Int32) (x4 : Int32) (x5 : Int32) (h : Hp) : Option ((Int32 × Int32 × Hp) ⊕ (Int32 × Hp)) :=
  if (h 40 0) ≤ x5 then
    some (.inr (x4, h))
  else
    if (10 : Int32) ≤ x5 then
      some (.inr (x4, h))
    else
      if ce_in x5 10 = true then
        if ce_in (h 41 (x5).toNatClampNeg) 10 = true then
          ce_nm (hp_up h 45 ((h 41 (x5).toNatClampNeg)).toNatClampNeg x3) (fun h_38 =>
            Option.bind (ce_it (fun (st : Int32 × Int32 × Hp) => f2_markOne_b42 F k1 x3 x5 (h 41 (x5).toNatClampNeg) st.1 st.2.1 st.2.2) F (x4, (0 : Int32), h_38)) (fun o42 =>
              some (.inl (o42.1, x5 + (1 : Int32), o42.2))))
        else none
      else none
set_option maxRecDepth 20000 in
theorem l2_markOne_6 (C : ce_Cx p s m args c meth b2_markOne 8 none cn_2 D ad cA B0 (ce_St aK aV B0)) (F : Nat) (k1 : Nat) (x3 : Int32) (hk1 : ce_isNet k1) (r : Hp) (g : (Int32 × Hp) → Option (Hp)) (hx : ∀ (x4 : Int32) (h : Hp) (H : Heap) (locs : List Loc) (ls : Array Slot), ce_H D ad cA B0 [] s h H locs → lv_has ls 8 [(0, .ref (ad 44)), (2, .ref (ad 40)), (3, .int x3), (4, .int x4)] → g (x4, h) = some r → W p l e0 { frames := 1, cells := 0, slots := 0, locals := 21 } s m args below meth c H locs 0 0 (MQ below (ce_Q D ad cA B0 (ce_St aK aV B0) none r) args s 0 0 (fun q => B0 ≤ q)) (F0 m 83 ls [])) : ∀ (n : Nat) (x4 : Int32) (x5 : Int32) (h : Hp) (H : Heap) (locs : List Loc) (ls : Array Slot), ce_H D ad cA B0 [] s h H locs → lv_has ls 8 [(0, .ref (ad 44)), (1, .ref (ad k1)), (2, .ref (ad 40)), (3, .int x3), (4, .int x4), (5, .int x5)] → Option.bind (ce_it (fun (st : Int32 × Int32 × Hp) => f2_markOne_b6 F k1 x3 st.1 st.2.1 st.2.2) n (x4, x5, h)) g = some r → W p l e0 { frames := 1, cells := 0, slots := 0, locals := 21 } s m args below meth c H locs 0 0 (MQ below (ce_Q D ad cA B0 (ce_St aK aV B0) none r) args s 0 0 (fun q => B0 ≤ q)) (F0 m 6 ls []) := by
  intro n
  induction n with
  | zero =>
    intro x4 x5 h H locs ls hH hl e
    exact absurd e (fun z => by cases z)
  | succ n ih =>
    intro x4 x5 h H locs ls hH hl e
    have hx9 := C.1
    have hb := C.2.1
    have e : Option.bind (f2_markOne_b6 F k1 x3 x4 x5 h) _ = some r := ce_it_bd e
    unfold f2_markOne_b6 at e
    refine lv_iload hx9 hb d2_markOne_6 (lv_at hl 5 rfl) ?_
    refine lv_aload_n hx9 hb d2_markOne_8 rfl (lv_at hl 2 rfl) ?_
    refine gf_2_49 C hH d2_markOne_9 ?_
    refine lv_icmp_ge (tgt := 83) hx9 hb d2_markOne_12 (by decide) (fun hc12 => ?_) (fun hc12 => ?_)
    · have e := ce_if1 e hc12
      exact hx x4 h _ _ _ hH (lv_sub hl [0, 2, 3, 4] rfl) e
    · have e := ce_if0 e hc12
      refine lv_iload hx9 hb d2_markOne_15 (lv_at hl 5 rfl) ?_
      refine lv_bipush (v := (10 : Int32)) hx9 hb d2_markOne_17 (by decide) ?_
      refine lv_icmp_ge (tgt := 83) hx9 hb d2_markOne_19 (by decide) (fun hc19 => ?_) (fun hc19 => ?_)
      · have e := ce_if1 e hc19
        exact hx x4 h _ _ _ hH (lv_sub hl [0, 2, 3, 4] rfl) e
      · have e := ce_if0 e hc19
        refine lv_aload_n hx9 hb d2_markOne_22 rfl (lv_at hl 2 rfl) ?_
        refine gf_2_52 C hH d2_markOne_23 ?_
        refine lv_iload hx9 hb d2_markOne_26 (lv_at hl 5 rfl) ?_
        obtain ⟨hi28, e⟩ := ce_gd e
        refine ce_iald C hH lc_41.1 lc_41.2 (ce_in_vp hi28) d2_markOne_28 ?_
        refine lv_istore (lv' := [(6, .int (h 41 (x5).toNatClampNeg)), (0, .ref (ad 44)), (1, .ref (ad k1)), (2, .ref (ad 40)), (3, .int x3), (4, .int x4), (5, .int x5)]) hx9 hb d2_markOne_29 hl (by decide) rfl (fun ls hl => ?_)
        refine lv_aload_n hx9 hb d2_markOne_31 rfl (lv_at hl 1 rfl) ?_
        refine gf_2_18 C hH d2_markOne_32 ?_
        refine lv_iload hx9 hb d2_markOne_35 (lv_at hl 0 rfl) ?_
        refine lv_iload_n hx9 hb d2_markOne_37 rfl (lv_at hl 4 rfl) ?_
        obtain ⟨hi38, e⟩ := ce_gd e
        refine ce_iast C hH lc_45.1 lc_45.2 (ce_in_vp hi38) d2_markOne_38 (fun H locs hH => ?_)
        obtain ⟨h_38, eh_38, e⟩ := ce_nmE e
        rw [← eh_38] at hH
        refine lv_iconst (v := (0 : Int32)) hx9 hb d2_markOne_39 (by decide) ?_
        refine lv_istore (lv' := [(7, .int (0 : Int32)), (6, .int (h 41 (x5).toNatClampNeg)), (0, .ref (ad 44)), (1, .ref (ad k1)), (2, .ref (ad 40)), (3, .int x3), (4, .int x4), (5, .int x5)]) hx9 hb d2_markOne_40 hl (by decide) rfl (fun ls hl => ?_)
        refine l2_markOne_42 C F k1 x3 x5 (h 41 (x5).toNatClampNeg) hk1 r _ (fun y42_4 h_42 H locs ls hH hl e => ?_) F x4 (0 : Int32) h_38 _ _ _ hH (lv_sub hl [2, 3, 4, 5, 6, 7, 1, 0] rfl) (ce_as e)
        try dsimp only at e
        refine lv_iinc (v := x5 + (1 : Int32)) (lv' := [(5, .int (x5 + (1 : Int32))), (0, .ref (ad 44)), (1, .ref (ad k1)), (2, .ref (ad 40)), (3, .int x3), (4, .int y42_4)]) hx9 hb d2_markOne_77 hl (k := 5) rfl rfl (by decide) rfl (fun ls hl => ?_)
        refine lv_goto (tgt := 6) hx9 hb d2_markOne_80 (by decide) ?_
        exact ih y42_4 (x5 + (1 : Int32)) h_42 _ _ _ hH (lv_sub hl [1, 2, 3, 4, 5, 0] rfl) e
def f2_markOne (F : Nat) (k1 : Nat) (x3 : Int32) (h : Hp) : Option (Hp) :=
  Option.bind (ce_it (fun (st : Int32 × Int32 × Hp) => f2_markOne_b6 F k1 x3 st.1 st.2.1 st.2.2) F ((0 : Int32), (0 : Int32), h)) (fun o6 =>
    if ce_in x3 10 = true then
      ce_nm (hp_up o6.2 46 (x3).toNatClampNeg (o6.2 40 0)) (fun h_92 =>
        if ce_in x3 10 = true then
          ce_nm (hp_up h_92 47 (x3).toNatClampNeg (o6.1 / (2 : Int32))) (fun h_102 =>
            ce_nm (hp_up h_102 44 0 ((h_102 44 0) + (1 : Int32))) (fun h_110 =>
              if (o6.1 / (2 : Int32)) < (h_110 40 0) then
                some h_110
              else
                ce_nm (hp_up h_110 44 1 ((h_110 44 1) + (1 : Int32))) (fun h_131 =>
                  some h_131)))
        else none)
    else none)
set_option maxRecDepth 20000 in
theorem c2_markOne (l : Launch) (D : va_G) (ad : Nat → Nat) (cA : Nat → ClassId) (aK aV : Nat → Nat) (B0 : Nat) (hA : ce_Ad ad B0) (F : Nat) (k1 : Nat) (x3 : Int32) (hk1 : ce_isNet k1) (h : Hp) (r : Hp) (e : f2_markOne F k1 x3 h = some r) : ce_Ct l D ad cA B0 (ce_St aK aV B0) y2_markOne b2_markOne 8 none 1 21 0 0 [.ref (ad 44), .ref (ad k1), .ref (ad 40), .int x3] h none r := by
  refine ce_enter hA (by decide) rfl (Nat.le_of_ble_eq_true rfl) (fun p e0 s m below meth c ls C hH hl => ?_)
  have hl : lv_has ls 8 [(0, .ref (ad 44)), (1, .ref (ad k1)), (2, .ref (ad 40)), (3, .int x3)] := hl
  have hx := C.1
  have hb := C.2.1
  have e : Option.bind _ some = some r := (congrArg (fun z => Option.bind z some) e).trans rfl
  unfold f2_markOne at e
  refine lv_iconst (v := (0 : Int32)) hx hb d2_markOne_0 (by decide) ?_
  refine lv_istore (lv' := [(4, .int (0 : Int32)), (0, .ref (ad 44)), (1, .ref (ad k1)), (2, .ref (ad 40)), (3, .int x3)]) hx hb d2_markOne_1 hl (by decide) rfl (fun ls hl => ?_)
  refine lv_iconst (v := (0 : Int32)) hx hb d2_markOne_3 (by decide) ?_
  refine lv_istore (lv' := [(5, .int (0 : Int32)), (4, .int (0 : Int32)), (0, .ref (ad 44)), (1, .ref (ad k1)), (2, .ref (ad 40)), (3, .int x3)]) hx hb d2_markOne_4 hl (by decide) rfl (fun ls hl => ?_)
  refine l2_markOne_6 C F k1 x3 hk1 r _ (fun y6_4 h_6 H locs ls hH hl e => ?_) F (0 : Int32) (0 : Int32) h _ _ _ hH (lv_sub hl [2, 3, 4, 5, 1, 0] rfl) (ce_as e)
  try dsimp only at e
  refine lv_aload_n hx hb d2_markOne_83 rfl (lv_at hl 0 rfl) ?_
  refine gf_2_22 C hH d2_markOne_84 ?_
  refine lv_iload_n hx hb d2_markOne_87 rfl (lv_at hl 2 rfl) ?_
  refine lv_aload_n hx hb d2_markOne_88 rfl (lv_at hl 1 rfl) ?_
  refine gf_2_49 C hH d2_markOne_89 ?_
  obtain ⟨hi92, e⟩ := ce_gd e
  refine ce_iast C hH lc_46.1 lc_46.2 (ce_in_vp hi92) d2_markOne_92 (fun H locs hH => ?_)
  obtain ⟨h_92, eh_92, e⟩ := ce_nmE e
  rw [← eh_92] at hH
  refine lv_aload_n hx hb d2_markOne_93 rfl (lv_at hl 0 rfl) ?_
  refine gf_2_25 C hH d2_markOne_94 ?_
  refine lv_iload_n hx hb d2_markOne_97 rfl (lv_at hl 2 rfl) ?_
  refine lv_iload hx hb d2_markOne_98 (lv_at hl 3 rfl) ?_
  refine lv_iconst (v := (2 : Int32)) hx hb d2_markOne_100 (by decide) ?_
  refine lv_idiv hx hb d2_markOne_101 (by decide) ?_
  obtain ⟨hi102, e⟩ := ce_gd e
  refine ce_iast C hH lc_47.1 lc_47.2 (ce_in_vp hi102) d2_markOne_102 (fun H locs hH => ?_)
  obtain ⟨h_102, eh_102, e⟩ := ce_nmE e
  rw [← eh_102] at hH
  refine lv_aload_n hx hb d2_markOne_103 rfl (lv_at hl 0 rfl) ?_
  refine lv_dup hx hb d2_markOne_104 rfl ?_
  refine gf_2_9 C hH d2_markOne_105 ?_
  refine lv_iconst (v := (1 : Int32)) hx hb d2_markOne_108 (by decide) ?_
  refine lv_iadd hx hb d2_markOne_109 ?_
  refine pf_2_9 C hH d2_markOne_110 (fun H locs hH => ?_)
  obtain ⟨h_110, eh_110, e⟩ := ce_nmE e
  rw [← eh_110] at hH
  refine lv_iload hx hb d2_markOne_113 (lv_at hl 3 rfl) ?_
  refine lv_iconst (v := (2 : Int32)) hx hb d2_markOne_115 (by decide) ?_
  refine lv_idiv hx hb d2_markOne_116 (by decide) ?_
  refine lv_aload_n hx hb d2_markOne_117 rfl (lv_at hl 1 rfl) ?_
  refine gf_2_49 C hH d2_markOne_118 ?_
  refine lv_icmp_lt (tgt := 134) hx hb d2_markOne_121 (by decide) (fun hc121 => ?_) (fun hc121 => ?_)
  · have e := ce_if1 e hc121
    exact ce_vret C (ce_sok aK aV B0) hH (Option.some.inj e) d2_markOne_134
  · have e := ce_if0 e hc121
    refine lv_aload_n hx hb d2_markOne_124 rfl (lv_at hl 0 rfl) ?_
    refine lv_dup hx hb d2_markOne_125 rfl ?_
    refine gf_2_15 C hH d2_markOne_126 ?_
    refine lv_iconst (v := (1 : Int32)) hx hb d2_markOne_129 (by decide) ?_
    refine lv_iadd hx hb d2_markOne_130 ?_
    refine pf_2_15 C hH d2_markOne_131 (fun H locs hH => ?_)
    obtain ⟨h_131, eh_131, e⟩ := ce_nmE e
    rw [← eh_131] at hH
    exact ce_vret C (ce_sok aK aV B0) hH (Option.some.inj e) d2_markOne_134
abbrev b2_mark : ByteArray := prog_4_method_2_code
def y2_mark : MethodName := ⟨cn_2, "mark", "(LCableElection$Net;LCableElection$Walk;)V"⟩
theorem d2_mark_0 : decode b2_mark 0 = .ok (.aload_n 0, 1) := by decide +kernel
theorem d2_mark_1 : decode b2_mark 1 = .ok (.iconst 0, 1) := by decide +kernel
theorem d2_mark_2 : decode b2_mark 2 = .ok (.putfield 9, 3) := by decide +kernel
theorem d2_mark_5 : decode b2_mark 5 = .ok (.aload_n 0, 1) := by decide +kernel
theorem d2_mark_6 : decode b2_mark 6 = .ok (.iconst 0, 1) := by decide +kernel
theorem d2_mark_7 : decode b2_mark 7 = .ok (.putfield 15, 3) := by decide +kernel
theorem d2_mark_10 : decode b2_mark 10 = .ok (.aload_n 0, 1) := by decide +kernel
theorem d2_mark_11 : decode b2_mark 11 = .ok (.getfield 18, 3) := by decide +kernel
theorem d2_mark_14 : decode b2_mark 14 = .ok (.iconst (-1), 1) := by decide +kernel
theorem d2_mark_15 : decode b2_mark 15 = .ok (.invokestatic 28, 3) := by decide +kernel
theorem d2_mark_18 : decode b2_mark 18 = .ok (.iconst 0, 1) := by decide +kernel
theorem d2_mark_19 : decode b2_mark 19 = .ok (.istore_n 3, 1) := by decide +kernel
theorem d2_mark_20 : decode b2_mark 20 = .ok (.iload_n 3, 1) := by decide +kernel
theorem d2_mark_21 : decode b2_mark 21 = .ok (.aload_n 1, 1) := by decide +kernel
theorem d2_mark_22 : decode b2_mark 22 = .ok (.getfield 34, 3) := by decide +kernel
theorem d2_mark_25 : decode b2_mark 25 = .ok (.if_icmp .ge 33, 3) := by decide +kernel
theorem d2_mark_28 : decode b2_mark 28 = .ok (.aload_n 0, 1) := by decide +kernel
theorem d2_mark_29 : decode b2_mark 29 = .ok (.getfield 18, 3) := by decide +kernel
theorem d2_mark_32 : decode b2_mark 32 = .ok (.iload_n 3, 1) := by decide +kernel
theorem d2_mark_33 : decode b2_mark 33 = .ok (.iaload, 1) := by decide +kernel
theorem d2_mark_34 : decode b2_mark 34 = .ok (.iconst (-1), 1) := by decide +kernel
theorem d2_mark_35 : decode b2_mark 35 = .ok (.if_icmp .ne 17, 3) := by decide +kernel
theorem d2_mark_38 : decode b2_mark 38 = .ok (.aload_n 2, 1) := by decide +kernel
theorem d2_mark_39 : decode b2_mark 39 = .ok (.aload_n 1, 1) := by decide +kernel
theorem d2_mark_40 : decode b2_mark 40 = .ok (.iload_n 3, 1) := by decide +kernel
theorem d2_mark_41 : decode b2_mark 41 = .ok (.iconst (-1), 1) := by decide +kernel
theorem d2_mark_42 : decode b2_mark 42 = .ok (.invokevirtual 39, 3) := by decide +kernel
theorem d2_mark_45 : decode b2_mark 45 = .ok (.aload_n 0, 1) := by decide +kernel
theorem d2_mark_46 : decode b2_mark 46 = .ok (.aload_n 1, 1) := by decide +kernel
theorem d2_mark_47 : decode b2_mark 47 = .ok (.aload_n 2, 1) := by decide +kernel
theorem d2_mark_48 : decode b2_mark 48 = .ok (.iload_n 3, 1) := by decide +kernel
theorem d2_mark_49 : decode b2_mark 49 = .ok (.invokevirtual 45, 3) := by decide +kernel
theorem d2_mark_52 : decode b2_mark 52 = .ok (.iinc 3 1, 3) := by decide +kernel
theorem d2_mark_55 : decode b2_mark 55 = .ok (.goto (-35), 3) := by decide +kernel
theorem d2_mark_58 : decode b2_mark 58 = .ok (.return_, 1) := by decide +kernel
theorem fl_2_34 : Cond.fieldLink cn_2 34 (ft_5 3).1 (ft_5 3).2.1 (ft_5 3).2.2.1 ∈ ce_cm := ce_cm_of (List.mem_of_getElem? (i := 205) (by decide +kernel)) (by decide +kernel)
theorem gf_2_34 (C : ce_Cx p s m args c meth cc nL ret cn_2 D ad cA B0 (ce_St aK aV B0)) (hH : ce_H D ad cA B0 X s h H locs) {k : Nat} (hk : ce_isNet k) (hdg : decode cc pc = .ok (.getfield 34, 3)) (kk : W p l e0 R s m args below meth c H locs cells slots Q (F0 m (pc + 3) ls (.int (h k 3) :: rest))) : W p l e0 R s m args below meth c H locs cells slots Q (F0 m pc ls (.ref (ad k) :: rest)) := by
  rcases hk with rfl | rfl
  · exact ce_get C hH (k := 7) (ci := 5) (j := 3) (N := 11) (sj := none) (by decide) rfl rfl fw_5 (by decide) fl_2_34 rfl hdg kk
  · exact ce_get C hH (k := 14) (ci := 5) (j := 3) (N := 11) (sj := none) (by decide) rfl rfl fw_5 (by decide) fl_2_34 rfl hdg kk
theorem pf_2_34 (C : ce_Cx p s m args c meth cc nL ret cn_2 D ad cA B0 (ce_St aK aV B0)) (hH : ce_H D ad cA B0 X s h H locs) {k : Nat} (hk : ce_isNet k) {x : Int32} (hdg : decode cc pc = .ok (.putfield 34, 3)) (kk : ∀ (H1 : Heap) (locs1 : List Loc), ce_H D ad cA B0 X s (hp_up h k 3 x) H1 locs1 → W p l e0 R s m args below meth c H1 locs1 cells slots Q (F0 m (pc + 3) ls rest)) : W p l e0 R s m args below meth c H locs cells slots Q (F0 m pc ls (.int x :: .ref (ad k) :: rest)) := by
  rcases hk with rfl | rfl
  · exact ce_put C hH (k := 7) (ci := 5) (j := 3) (N := 11) (fy := fy_5) (sj := none) x (by decide) rfl rfl fw_5 fo_5 fn_5 (by decide) fl_2_34 rfl rfl (v := .int x) (by simp [ce_slot, upd]) rfl rfl hdg kk
  · exact ce_put C hH (k := 14) (ci := 5) (j := 3) (N := 11) (fy := fy_5) (sj := none) x (by decide) rfl rfl fw_5 fo_5 fn_5 (by decide) fl_2_34 rfl rfl (v := .int x) (by simp [ce_slot, upd]) rfl rfl hdg kk
theorem lo_44 : 44 < 96 ∧ ∃ sl, ce_lay 44 = .inr (2, sl) := ⟨by decide, _, rfl⟩
theorem mc2_markOne : Cond.code y2_markOne b2_markOne 8 none ∈ ce_cm := ce_cm_of (List.mem_of_getElem? (i := 719) (by decide +kernel)) (by decide +kernel)
theorem ml_2_45 : Cond.methodLink cn_2 45 y2_markOne ∈ ce_cm := ce_cm_of (List.mem_of_getElem? (i := 716) (by decide +kernel)) (by decide +kernel)
theorem mi2_markOne : Cond.instanceMethod y2_markOne ∈ ce_cm := ce_cm_of (List.mem_of_getElem? (i := 718) (by decide +kernel)) (by decide +kernel)
theorem ms2_markOne : Cond.selects cn_2 y2_markOne y2_markOne ∈ ce_cm := ce_cm_of (List.mem_of_getElem? (i := 12) (by decide +kernel)) (by decide +kernel)
theorem mI_2 : Cond.initialized cn_2 ∈ ce_cm := ce_cm_of (List.mem_of_getElem? (i := 99) (by decide +kernel)) (by decide +kernel)
theorem ml_2_39 : Cond.methodLink cn_2 39 y10_start ∈ ce_cm := ce_cm_of (List.mem_of_getElem? (i := 698) (by decide +kernel)) (by decide +kernel)
theorem ml_2_28 : Cond.methodLink cn_2 28 y7_fill_53178 ∈ ce_cm := ce_cm_of (List.mem_of_getElem? (i := 697) (by decide +kernel)) (by decide +kernel)
def f2_mark_b20 (F : Nat) (k1 : Nat) (x3 : Int32) (h : Hp) : Option ((Int32 × Hp) ⊕ (Hp)) :=
  if (h k1 3) ≤ x3 then
    some (.inr h)
  else
    if ce_in x3 10 = true then
      if (h 45 (x3).toNatClampNeg) = (-1 : Int32) then
        Option.bind (f10_start F k1 x3 (-1 : Int32) h) (fun o42 =>
          Option.bind (f2_markOne F k1 x3 o42) (fun o49 =>
            some (.inl (x3 + (1 : Int32), o49))))
      else
        some (.inl (x3 + (1 : Int32), h))
    else none
set_option maxRecDepth 20000 in
theorem l2_mark_20 (C : ce_Cx p s m args c meth b2_mark 4 none cn_2 D ad cA B0 (ce_St aK aV B0)) (F : Nat) (k1 : Nat) (hk1 : ce_isNet k1) (r : Hp) (g : (Hp) → Option (Hp)) (hx : ∀  (h : Hp) (H : Heap) (locs : List Loc) (ls : Array Slot), ce_H D ad cA B0 [] s h H locs → lv_has ls 4 [] → g h = some r → W p l e0 { frames := 3, cells := 0, slots := 0, locals := 73 } s m args below meth c H locs 0 0 (MQ below (ce_Q D ad cA B0 (ce_St aK aV B0) none r) args s 0 0 (fun q => B0 ≤ q)) (F0 m 58 ls [])) : ∀ (n : Nat) (x3 : Int32) (h : Hp) (H : Heap) (locs : List Loc) (ls : Array Slot), ce_H D ad cA B0 [] s h H locs → lv_has ls 4 [(0, .ref (ad 44)), (1, .ref (ad k1)), (2, .ref (ad 40)), (3, .int x3)] → Option.bind (ce_it (fun (st : Int32 × Hp) => f2_mark_b20 F k1 st.1 st.2) n (x3, h)) g = some r → W p l e0 { frames := 3, cells := 0, slots := 0, locals := 73 } s m args below meth c H locs 0 0 (MQ below (ce_Q D ad cA B0 (ce_St aK aV B0) none r) args s 0 0 (fun q => B0 ≤ q)) (F0 m 20 ls []) := by
  intro n
  induction n with
  | zero =>
    intro x3 h H locs ls hH hl e
    exact absurd e (fun z => by cases z)
  | succ n ih =>
    intro x3 h H locs ls hH hl e
    have hx9 := C.1
    have hb := C.2.1
    have e : Option.bind (f2_mark_b20 F k1 x3 h) _ = some r := ce_it_bd e
    unfold f2_mark_b20 at e
    refine lv_iload_n hx9 hb d2_mark_20 rfl (lv_at hl 3 rfl) ?_
    refine lv_aload_n hx9 hb d2_mark_21 rfl (lv_at hl 1 rfl) ?_
    refine gf_2_34 C hH hk1 d2_mark_22 ?_
    refine lv_icmp_ge (tgt := 58) hx9 hb d2_mark_25 (by decide) (fun hc25 => ?_) (fun hc25 => ?_)
    · have e := ce_if1 e hc25
      exact hx  h _ _ _ hH (lv_sub hl [] rfl) e
    · have e := ce_if0 e hc25
      refine lv_aload_n hx9 hb d2_mark_28 rfl (lv_at hl 0 rfl) ?_
      refine gf_2_18 C hH d2_mark_29 ?_
      refine lv_iload_n hx9 hb d2_mark_32 rfl (lv_at hl 3 rfl) ?_
      obtain ⟨hi33, e⟩ := ce_gd e
      refine ce_iald C hH lc_45.1 lc_45.2 (ce_in_vp hi33) d2_mark_33 ?_
      refine lv_iconst (v := (-1 : Int32)) hx9 hb d2_mark_34 (by decide) ?_
      refine lv_icmp_ne (tgt := 52) hx9 hb d2_mark_35 (by decide) (fun hc35 => ?_) (fun hc35 => ?_)
      · have e := ce_if0 e hc35
        refine lv_iinc (v := x3 + (1 : Int32)) (lv' := [(3, .int (x3 + (1 : Int32))), (0, .ref (ad 44)), (1, .ref (ad k1)), (2, .ref (ad 40))]) hx9 hb d2_mark_52 hl (k := 3) rfl rfl (by decide) rfl (fun ls hl => ?_)
        refine lv_goto (tgt := 20) hx9 hb d2_mark_55 (by decide) ?_
        exact ih (x3 + (1 : Int32)) h _ _ _ hH (lv_sub hl [1, 2, 3, 0] rfl) e
      · have e := ce_if1 e hc35
        refine lv_aload_n hx9 hb d2_mark_38 rfl (lv_at hl 2 rfl) ?_
        refine lv_aload_n hx9 hb d2_mark_39 rfl (lv_at hl 1 rfl) ?_
        refine lv_iload_n hx9 hb d2_mark_40 rfl (lv_at hl 3 rfl) ?_
        refine lv_iconst (v := (-1 : Int32)) hx9 hb d2_mark_41 (by decide) ?_
        obtain ⟨o42, eo42, e⟩ := ce_bd e
        refine ce_callV (As := [.ref (ad k1), .int x3, .int (-1 : Int32)]) (rest := []) C (ce_sok aK aV B0) hH (c10_start l D ad cA aK aV B0 C.2.2.2.2.2.2.1 F k1 x3 (-1 : Int32) hk1 h o42 eo42) lo_40.1 lo_40.2.choose_spec rfl rfl mc10_start ml_2_39 mi10_start ms10_start mI_10 (n := 3) (by decide) rfl ⟨Nat.le_of_ble_eq_true rfl, Nat.le_of_ble_eq_true rfl⟩ ⟨Nat.le_of_ble_eq_true rfl, Nat.le_of_ble_eq_true rfl⟩ hl.1 rfl (Nat.le_of_ble_eq_true rfl) d2_mark_42 (fun H locs hH => ?_)
        refine W.eq (g2 := F0 m 45 ls []) rfl ?_
        refine lv_aload_n hx9 hb d2_mark_45 rfl (lv_at hl 0 rfl) ?_
        refine lv_aload_n hx9 hb d2_mark_46 rfl (lv_at hl 1 rfl) ?_
        refine lv_aload_n hx9 hb d2_mark_47 rfl (lv_at hl 2 rfl) ?_
        refine lv_iload_n hx9 hb d2_mark_48 rfl (lv_at hl 3 rfl) ?_
        obtain ⟨o49, eo49, e⟩ := ce_bd e
        refine ce_callV (As := [.ref (ad k1), .ref (ad 40), .int x3]) (rest := []) C (ce_sok aK aV B0) hH (c2_markOne l D ad cA aK aV B0 C.2.2.2.2.2.2.1 F k1 x3 hk1 o42 o49 eo49) lo_44.1 lo_44.2.choose_spec rfl rfl mc2_markOne ml_2_45 mi2_markOne ms2_markOne mI_2 (n := 3) (by decide) rfl ⟨Nat.le_of_ble_eq_true rfl, Nat.le_of_ble_eq_true rfl⟩ ⟨Nat.le_of_ble_eq_true rfl, Nat.le_of_ble_eq_true rfl⟩ hl.1 rfl (Nat.le_of_ble_eq_true rfl) d2_mark_49 (fun H locs hH => ?_)
        refine W.eq (g2 := F0 m 52 ls []) rfl ?_
        refine lv_iinc (v := x3 + (1 : Int32)) (lv' := [(3, .int (x3 + (1 : Int32))), (0, .ref (ad 44)), (1, .ref (ad k1)), (2, .ref (ad 40))]) hx9 hb d2_mark_52 hl (k := 3) rfl rfl (by decide) rfl (fun ls hl => ?_)
        refine lv_goto (tgt := 20) hx9 hb d2_mark_55 (by decide) ?_
        exact ih (x3 + (1 : Int32)) o49 _ _ _ hH (lv_sub hl [1, 2, 3, 0] rfl) e
def f2_mark (F : Nat) (k1 : Nat) (h : Hp) : Option (Hp) :=
  ce_nm (hp_up h 44 0 (0 : Int32)) (fun h_2 =>
    ce_nm (hp_up h_2 44 1 (0 : Int32)) (fun h_7 =>
      Option.bind (f7_fill_53178 F 45 10 (-1 : Int32) h_7) (fun o15 =>
        Option.bind (ce_it (fun (st : Int32 × Hp) => f2_mark_b20 F k1 st.1 st.2) F ((0 : Int32), o15)) (fun o20 =>
          some o20))))
set_option maxRecDepth 20000 in
theorem c2_mark (l : Launch) (D : va_G) (ad : Nat → Nat) (cA : Nat → ClassId) (aK aV : Nat → Nat) (B0 : Nat) (hA : ce_Ad ad B0) (F : Nat) (k1 : Nat) (hk1 : ce_isNet k1) (h : Hp) (r : Hp) (e : f2_mark F k1 h = some r) : ce_Ct l D ad cA B0 (ce_St aK aV B0) y2_mark b2_mark 4 none 3 73 0 0 [.ref (ad 44), .ref (ad k1), .ref (ad 40)] h none r := by
  refine ce_enter hA (by decide) rfl (Nat.le_of_ble_eq_true rfl) (fun p e0 s m below meth c ls C hH hl => ?_)
  have hl : lv_has ls 4 [(0, .ref (ad 44)), (1, .ref (ad k1)), (2, .ref (ad 40))] := hl
  have hx := C.1
  have hb := C.2.1
  have e : Option.bind _ some = some r := (congrArg (fun z => Option.bind z some) e).trans rfl
  unfold f2_mark at e
  refine lv_aload_n hx hb d2_mark_0 rfl (lv_at hl 0 rfl) ?_
  refine lv_iconst (v := (0 : Int32)) hx hb d2_mark_1 (by decide) ?_
  refine pf_2_9 C hH d2_mark_2 (fun H locs hH => ?_)
  obtain ⟨h_2, eh_2, e⟩ := ce_nmE e
  rw [← eh_2] at hH
  refine lv_aload_n hx hb d2_mark_5 rfl (lv_at hl 0 rfl) ?_
  refine lv_iconst (v := (0 : Int32)) hx hb d2_mark_6 (by decide) ?_
  refine pf_2_15 C hH d2_mark_7 (fun H locs hH => ?_)
  obtain ⟨h_7, eh_7, e⟩ := ce_nmE e
  rw [← eh_7] at hH
  refine lv_aload_n hx hb d2_mark_10 rfl (lv_at hl 0 rfl) ?_
  refine gf_2_18 C hH d2_mark_11 ?_
  refine lv_iconst (v := (-1 : Int32)) hx hb d2_mark_14 (by decide) ?_
  obtain ⟨o15, eo15, e⟩ := ce_bd e
  refine ce_callS (As := [.ref (ad 45), .int (-1 : Int32)]) (rest := []) C (ce_sok aK aV B0) hH (c7_fill_53178 l D ad cA aK aV B0 C.2.2.2.2.2.2.1 F 45 10 (-1 : Int32) ⟨lc_45.1, lc_45.2⟩ h_7 o15 eo15) mc7_fill_53178 ml_2_28 mt7_fill_53178 mI_A (n := 2) (by decide) rfl ⟨Nat.le_of_ble_eq_true rfl, Nat.le_of_ble_eq_true rfl⟩ ⟨Nat.le_of_ble_eq_true rfl, Nat.le_of_ble_eq_true rfl⟩ hl.1 rfl (Nat.le_of_ble_eq_true rfl) d2_mark_15 (fun H locs hH => ?_)
  refine W.eq (g2 := F0 m 18 ls []) rfl ?_
  refine lv_iconst (v := (0 : Int32)) hx hb d2_mark_18 (by decide) ?_
  refine lv_istore_n (lv' := [(3, .int (0 : Int32)), (0, .ref (ad 44)), (1, .ref (ad k1)), (2, .ref (ad 40))]) hx hb d2_mark_19 rfl hl (by decide) rfl (fun ls hl => ?_)
  refine l2_mark_20 C F k1 hk1 r _ (fun  h_20 H locs ls hH hl e => ?_) F (0 : Int32) o15 _ _ _ hH (lv_sub hl [1, 2, 3, 0] rfl) (ce_as e)
  try dsimp only at e
  exact ce_vret C (ce_sok aK aV B0) hH (Option.some.inj e) d2_mark_58
abbrev b2_areOne : ByteArray := prog_4_method_4_code
def y2_areOne : MethodName := ⟨cn_2, "areOne", "(II)Z"⟩
theorem d2_areOne_0 : decode b2_areOne 0 = .ok (.aload_n 0, 1) := by decide +kernel
theorem d2_areOne_1 : decode b2_areOne 1 = .ok (.getfield 18, 3) := by decide +kernel
theorem d2_areOne_4 : decode b2_areOne 4 = .ok (.iload_n 1, 1) := by decide +kernel
theorem d2_areOne_5 : decode b2_areOne 5 = .ok (.iaload, 1) := by decide +kernel
theorem d2_areOne_6 : decode b2_areOne 6 = .ok (.aload_n 0, 1) := by decide +kernel
theorem d2_areOne_7 : decode b2_areOne 7 = .ok (.getfield 18, 3) := by decide +kernel
theorem d2_areOne_10 : decode b2_areOne 10 = .ok (.iload_n 2, 1) := by decide +kernel
theorem d2_areOne_11 : decode b2_areOne 11 = .ok (.iaload, 1) := by decide +kernel
theorem d2_areOne_12 : decode b2_areOne 12 = .ok (.if_icmp .ne 7, 3) := by decide +kernel
theorem d2_areOne_15 : decode b2_areOne 15 = .ok (.iconst 1, 1) := by decide +kernel
theorem d2_areOne_16 : decode b2_areOne 16 = .ok (.goto 4, 3) := by decide +kernel
theorem d2_areOne_19 : decode b2_areOne 19 = .ok (.iconst 0, 1) := by decide +kernel
theorem d2_areOne_20 : decode b2_areOne 20 = .ok (.ireturn, 1) := by decide +kernel
def f2_areOne (F : Nat) (x1 : Int32) (x2 : Int32) (h : Hp) : Option (Int32 × Hp) :=
  if ce_in x1 10 = true then
    if ce_in x2 10 = true then
      if (h 45 (x1).toNatClampNeg) = (h 45 (x2).toNatClampNeg) then
        some ((1 : Int32), h)
      else
        some ((0 : Int32), h)
    else none
  else none
set_option maxRecDepth 20000 in
theorem c2_areOne (l : Launch) (D : va_G) (ad : Nat → Nat) (cA : Nat → ClassId) (aK aV : Nat → Nat) (B0 : Nat) (hA : ce_Ad ad B0) (F : Nat) (x1 : Int32) (x2 : Int32)  (h : Hp) (r : Int32 × Hp) (e : f2_areOne F x1 x2 h = some r) : ce_Ct l D ad cA B0 (ce_St aK aV B0) y2_areOne b2_areOne 3 (some .boolean) 0 0 0 0 [.ref (ad 44), .int x1, .int x2] h (some (.int r.1)) r.2 := by
  refine ce_enter hA (by decide) rfl (Nat.le_of_ble_eq_true rfl) (fun p e0 s m below meth c ls C hH hl => ?_)
  have hl : lv_has ls 3 [(0, .ref (ad 44)), (1, .int x1), (2, .int x2)] := hl
  have hx := C.1
  have hb := C.2.1
  have e : Option.bind _ some = some r := (congrArg (fun z => Option.bind z some) e).trans rfl
  unfold f2_areOne at e
  refine lv_aload_n hx hb d2_areOne_0 rfl (lv_at hl 0 rfl) ?_
  refine gf_2_18 C hH d2_areOne_1 ?_
  refine lv_iload_n hx hb d2_areOne_4 rfl (lv_at hl 1 rfl) ?_
  obtain ⟨hi5, e⟩ := ce_gd e
  refine ce_iald C hH lc_45.1 lc_45.2 (ce_in_vp hi5) d2_areOne_5 ?_
  refine lv_aload_n hx hb d2_areOne_6 rfl (lv_at hl 0 rfl) ?_
  refine gf_2_18 C hH d2_areOne_7 ?_
  refine lv_iload_n hx hb d2_areOne_10 rfl (lv_at hl 2 rfl) ?_
  obtain ⟨hi11, e⟩ := ce_gd e
  refine ce_iald C hH lc_45.1 lc_45.2 (ce_in_vp hi11) d2_areOne_11 ?_
  refine lv_icmp_ne (tgt := 19) hx hb d2_areOne_12 (by decide) (fun hc12 => ?_) (fun hc12 => ?_)
  · have e := ce_if0 e hc12
    refine lv_iconst (v := (0 : Int32)) hx hb d2_areOne_19 (by decide) ?_
    exact ce_zretE C (ce_sok aK aV B0) hH (Or.inl rfl) e d2_areOne_20
  · have e := ce_if1 e hc12
    refine lv_iconst (v := (1 : Int32)) hx hb d2_areOne_15 (by decide) ?_
    refine lv_goto (tgt := 20) hx hb d2_areOne_16 (by decide) ?_
    exact ce_zretE C (ce_sok aK aV B0) hH (Or.inr rfl) e d2_areOne_20
abbrev b2_leastOf : ByteArray := prog_4_method_5_code
def y2_leastOf : MethodName := ⟨cn_2, "leastOf", "(I)I"⟩
theorem d2_leastOf_0 : decode b2_leastOf 0 = .ok (.aload_n 0, 1) := by decide +kernel
theorem d2_leastOf_1 : decode b2_leastOf 1 = .ok (.getfield 18, 3) := by decide +kernel
theorem d2_leastOf_4 : decode b2_leastOf 4 = .ok (.iload_n 1, 1) := by decide +kernel
theorem d2_leastOf_5 : decode b2_leastOf 5 = .ok (.iaload, 1) := by decide +kernel
theorem d2_leastOf_6 : decode b2_leastOf 6 = .ok (.ifCond .ge 7, 3) := by decide +kernel
theorem d2_leastOf_9 : decode b2_leastOf 9 = .ok (.iconst 0, 1) := by decide +kernel
theorem d2_leastOf_10 : decode b2_leastOf 10 = .ok (.goto 9, 3) := by decide +kernel
theorem d2_leastOf_13 : decode b2_leastOf 13 = .ok (.aload_n 0, 1) := by decide +kernel
theorem d2_leastOf_14 : decode b2_leastOf 14 = .ok (.getfield 18, 3) := by decide +kernel
theorem d2_leastOf_17 : decode b2_leastOf 17 = .ok (.iload_n 1, 1) := by decide +kernel
theorem d2_leastOf_18 : decode b2_leastOf 18 = .ok (.iaload, 1) := by decide +kernel
theorem d2_leastOf_19 : decode b2_leastOf 19 = .ok (.ireturn, 1) := by decide +kernel
def f2_leastOf (F : Nat) (x1 : Int32) (h : Hp) : Option (Int32 × Hp) :=
  if ce_in x1 10 = true then
    if 0 ≤ (h 45 (x1).toNatClampNeg) then
      if ce_in x1 10 = true then
        some (h 45 (x1).toNatClampNeg, h)
      else none
    else
      some ((0 : Int32), h)
  else none
set_option maxRecDepth 20000 in
theorem c2_leastOf (l : Launch) (D : va_G) (ad : Nat → Nat) (cA : Nat → ClassId) (aK aV : Nat → Nat) (B0 : Nat) (hA : ce_Ad ad B0) (F : Nat) (x1 : Int32)  (h : Hp) (r : Int32 × Hp) (e : f2_leastOf F x1 h = some r) : ce_Ct l D ad cA B0 (ce_St aK aV B0) y2_leastOf b2_leastOf 2 (some .int) 0 0 0 0 [.ref (ad 44), .int x1] h (some (.int r.1)) r.2 := by
  refine ce_enter hA (by decide) rfl (Nat.le_of_ble_eq_true rfl) (fun p e0 s m below meth c ls C hH hl => ?_)
  have hl : lv_has ls 2 [(0, .ref (ad 44)), (1, .int x1)] := hl
  have hx := C.1
  have hb := C.2.1
  have e : Option.bind _ some = some r := (congrArg (fun z => Option.bind z some) e).trans rfl
  unfold f2_leastOf at e
  refine lv_aload_n hx hb d2_leastOf_0 rfl (lv_at hl 0 rfl) ?_
  refine gf_2_18 C hH d2_leastOf_1 ?_
  refine lv_iload_n hx hb d2_leastOf_4 rfl (lv_at hl 1 rfl) ?_
  obtain ⟨hi5, e⟩ := ce_gd e
  refine ce_iald C hH lc_45.1 lc_45.2 (ce_in_vp hi5) d2_leastOf_5 ?_
  refine lv_if_ge (tgt := 13) hx hb d2_leastOf_6 (by decide) (fun hc6 => ?_) (fun hc6 => ?_)
  · have e := ce_if1 e hc6
    refine lv_aload_n hx hb d2_leastOf_13 rfl (lv_at hl 0 rfl) ?_
    refine gf_2_18 C hH d2_leastOf_14 ?_
    refine lv_iload_n hx hb d2_leastOf_17 rfl (lv_at hl 1 rfl) ?_
    obtain ⟨hi18, e⟩ := ce_gd e
    refine ce_iald C hH lc_45.1 lc_45.2 (ce_in_vp hi18) d2_leastOf_18 ?_
    exact ce_iretE C (ce_sok aK aV B0) hH e d2_leastOf_19
  · have e := ce_if0 e hc6
    refine lv_iconst (v := (0 : Int32)) hx hb d2_leastOf_9 (by decide) ?_
    refine lv_goto (tgt := 19) hx hb d2_leastOf_10 (by decide) ?_
    exact ce_iretE C (ce_sok aK aV B0) hH e d2_leastOf_19
abbrev b2_nodesIn : ByteArray := prog_4_method_6_code
def y2_nodesIn : MethodName := ⟨cn_2, "nodesIn", "(I)I"⟩
theorem d2_nodesIn_0 : decode b2_nodesIn 0 = .ok (.aload_n 0, 1) := by decide +kernel
theorem d2_nodesIn_1 : decode b2_nodesIn 1 = .ok (.getfield 22, 3) := by decide +kernel
theorem d2_nodesIn_4 : decode b2_nodesIn 4 = .ok (.aload_n 0, 1) := by decide +kernel
theorem d2_nodesIn_5 : decode b2_nodesIn 5 = .ok (.iload_n 1, 1) := by decide +kernel
theorem d2_nodesIn_6 : decode b2_nodesIn 6 = .ok (.invokevirtual 66, 3) := by decide +kernel
theorem d2_nodesIn_9 : decode b2_nodesIn 9 = .ok (.iaload, 1) := by decide +kernel
theorem d2_nodesIn_10 : decode b2_nodesIn 10 = .ok (.ireturn, 1) := by decide +kernel
theorem mc2_leastOf : Cond.code y2_leastOf b2_leastOf 2 (some .int) ∈ ce_cm := ce_cm_of (List.mem_of_getElem? (i := 773) (by decide +kernel)) (by decide +kernel)
theorem ml_2_66 : Cond.methodLink cn_2 66 y2_leastOf ∈ ce_cm := ce_cm_of (List.mem_of_getElem? (i := 828) (by decide +kernel)) (by decide +kernel)
theorem mi2_leastOf : Cond.instanceMethod y2_leastOf ∈ ce_cm := ce_cm_of (List.mem_of_getElem? (i := 771) (by decide +kernel)) (by decide +kernel)
theorem ms2_leastOf : Cond.selects cn_2 y2_leastOf y2_leastOf ∈ ce_cm := ce_cm_of (List.mem_of_getElem? (i := 772) (by decide +kernel)) (by decide +kernel)
def f2_nodesIn (F : Nat) (x1 : Int32) (h : Hp) : Option (Int32 × Hp) :=
  Option.bind (f2_leastOf F x1 h) (fun o6 =>
    if ce_in o6.1 10 = true then
      some (o6.2 46 (o6.1).toNatClampNeg, o6.2)
    else none)
set_option maxRecDepth 20000 in
theorem c2_nodesIn (l : Launch) (D : va_G) (ad : Nat → Nat) (cA : Nat → ClassId) (aK aV : Nat → Nat) (B0 : Nat) (hA : ce_Ad ad B0) (F : Nat) (x1 : Int32)  (h : Hp) (r : Int32 × Hp) (e : f2_nodesIn F x1 h = some r) : ce_Ct l D ad cA B0 (ce_St aK aV B0) y2_nodesIn b2_nodesIn 2 (some .int) 1 21 0 0 [.ref (ad 44), .int x1] h (some (.int r.1)) r.2 := by
  refine ce_enter hA (by decide) rfl (Nat.le_of_ble_eq_true rfl) (fun p e0 s m below meth c ls C hH hl => ?_)
  have hl : lv_has ls 2 [(0, .ref (ad 44)), (1, .int x1)] := hl
  have hx := C.1
  have hb := C.2.1
  have e : Option.bind _ some = some r := (congrArg (fun z => Option.bind z some) e).trans rfl
  unfold f2_nodesIn at e
  refine lv_aload_n hx hb d2_nodesIn_0 rfl (lv_at hl 0 rfl) ?_
  refine gf_2_22 C hH d2_nodesIn_1 ?_
  refine lv_aload_n hx hb d2_nodesIn_4 rfl (lv_at hl 0 rfl) ?_
  refine lv_iload_n hx hb d2_nodesIn_5 rfl (lv_at hl 1 rfl) ?_
  obtain ⟨o6, eo6, e⟩ := ce_bd e
  refine ce_callV (As := [.int x1]) (rest := [.ref (ad 46)]) C (ce_sok aK aV B0) hH (c2_leastOf l D ad cA aK aV B0 C.2.2.2.2.2.2.1 F x1  h o6 eo6) lo_44.1 lo_44.2.choose_spec rfl rfl mc2_leastOf ml_2_66 mi2_leastOf ms2_leastOf mI_2 (n := 1) (by decide) rfl ⟨Nat.le_of_ble_eq_true rfl, Nat.le_of_ble_eq_true rfl⟩ ⟨Nat.le_of_ble_eq_true rfl, Nat.le_of_ble_eq_true rfl⟩ hl.1 rfl (Nat.le_of_ble_eq_true rfl) d2_nodesIn_6 (fun H locs hH => ?_)
  refine W.eq (g2 := F0 m 9 ls [.int o6.1, .ref (ad 46)]) rfl ?_
  obtain ⟨hi9, e⟩ := ce_gd e
  refine ce_iald C hH lc_46.1 lc_46.2 (ce_in_vp hi9) d2_nodesIn_9 ?_
  exact ce_iretE C (ce_sok aK aV B0) hH e d2_nodesIn_10
abbrev b2_cablesIn : ByteArray := prog_4_method_7_code
def y2_cablesIn : MethodName := ⟨cn_2, "cablesIn", "(I)I"⟩
theorem d2_cablesIn_0 : decode b2_cablesIn 0 = .ok (.aload_n 0, 1) := by decide +kernel
theorem d2_cablesIn_1 : decode b2_cablesIn 1 = .ok (.getfield 25, 3) := by decide +kernel
theorem d2_cablesIn_4 : decode b2_cablesIn 4 = .ok (.aload_n 0, 1) := by decide +kernel
theorem d2_cablesIn_5 : decode b2_cablesIn 5 = .ok (.iload_n 1, 1) := by decide +kernel
theorem d2_cablesIn_6 : decode b2_cablesIn 6 = .ok (.invokevirtual 66, 3) := by decide +kernel
theorem d2_cablesIn_9 : decode b2_cablesIn 9 = .ok (.iaload, 1) := by decide +kernel
theorem d2_cablesIn_10 : decode b2_cablesIn 10 = .ok (.ireturn, 1) := by decide +kernel
def f2_cablesIn (F : Nat) (x1 : Int32) (h : Hp) : Option (Int32 × Hp) :=
  Option.bind (f2_leastOf F x1 h) (fun o6 =>
    if ce_in o6.1 10 = true then
      some (o6.2 47 (o6.1).toNatClampNeg, o6.2)
    else none)
set_option maxRecDepth 20000 in
theorem c2_cablesIn (l : Launch) (D : va_G) (ad : Nat → Nat) (cA : Nat → ClassId) (aK aV : Nat → Nat) (B0 : Nat) (hA : ce_Ad ad B0) (F : Nat) (x1 : Int32)  (h : Hp) (r : Int32 × Hp) (e : f2_cablesIn F x1 h = some r) : ce_Ct l D ad cA B0 (ce_St aK aV B0) y2_cablesIn b2_cablesIn 2 (some .int) 1 21 0 0 [.ref (ad 44), .int x1] h (some (.int r.1)) r.2 := by
  refine ce_enter hA (by decide) rfl (Nat.le_of_ble_eq_true rfl) (fun p e0 s m below meth c ls C hH hl => ?_)
  have hl : lv_has ls 2 [(0, .ref (ad 44)), (1, .int x1)] := hl
  have hx := C.1
  have hb := C.2.1
  have e : Option.bind _ some = some r := (congrArg (fun z => Option.bind z some) e).trans rfl
  unfold f2_cablesIn at e
  refine lv_aload_n hx hb d2_cablesIn_0 rfl (lv_at hl 0 rfl) ?_
  refine gf_2_25 C hH d2_cablesIn_1 ?_
  refine lv_aload_n hx hb d2_cablesIn_4 rfl (lv_at hl 0 rfl) ?_
  refine lv_iload_n hx hb d2_cablesIn_5 rfl (lv_at hl 1 rfl) ?_
  obtain ⟨o6, eo6, e⟩ := ce_bd e
  refine ce_callV (As := [.int x1]) (rest := [.ref (ad 47)]) C (ce_sok aK aV B0) hH (c2_leastOf l D ad cA aK aV B0 C.2.2.2.2.2.2.1 F x1  h o6 eo6) lo_44.1 lo_44.2.choose_spec rfl rfl mc2_leastOf ml_2_66 mi2_leastOf ms2_leastOf mI_2 (n := 1) (by decide) rfl ⟨Nat.le_of_ble_eq_true rfl, Nat.le_of_ble_eq_true rfl⟩ ⟨Nat.le_of_ble_eq_true rfl, Nat.le_of_ble_eq_true rfl⟩ hl.1 rfl (Nat.le_of_ble_eq_true rfl) d2_cablesIn_6 (fun H locs hH => ?_)
  refine W.eq (g2 := F0 m 9 ls [.int o6.1, .ref (ad 47)]) rfl ?_
  obtain ⟨hi9, e⟩ := ce_gd e
  refine ce_iald C hH lc_47.1 lc_47.2 (ce_in_vp hi9) d2_cablesIn_9 ?_
  exact ce_iretE C (ce_sok aK aV B0) hH e d2_cablesIn_10
abbrev b2_hasLoop : ByteArray := prog_4_method_8_code
def y2_hasLoop : MethodName := ⟨cn_2, "hasLoop", "(I)Z"⟩
theorem d2_hasLoop_0 : decode b2_hasLoop 0 = .ok (.aload_n 0, 1) := by decide +kernel
theorem d2_hasLoop_1 : decode b2_hasLoop 1 = .ok (.iload_n 1, 1) := by decide +kernel
theorem d2_hasLoop_2 : decode b2_hasLoop 2 = .ok (.invokevirtual 70, 3) := by decide +kernel
theorem d2_hasLoop_5 : decode b2_hasLoop 5 = .ok (.aload_n 0, 1) := by decide +kernel
theorem d2_hasLoop_6 : decode b2_hasLoop 6 = .ok (.iload_n 1, 1) := by decide +kernel
theorem d2_hasLoop_7 : decode b2_hasLoop 7 = .ok (.invokevirtual 73, 3) := by decide +kernel
theorem d2_hasLoop_10 : decode b2_hasLoop 10 = .ok (.if_icmp .lt 7, 3) := by decide +kernel
theorem d2_hasLoop_13 : decode b2_hasLoop 13 = .ok (.iconst 1, 1) := by decide +kernel
theorem d2_hasLoop_14 : decode b2_hasLoop 14 = .ok (.goto 4, 3) := by decide +kernel
theorem d2_hasLoop_17 : decode b2_hasLoop 17 = .ok (.iconst 0, 1) := by decide +kernel
theorem d2_hasLoop_18 : decode b2_hasLoop 18 = .ok (.ireturn, 1) := by decide +kernel
theorem mc2_nodesIn : Cond.code y2_nodesIn b2_nodesIn 2 (some .int) ∈ ce_cm := ce_cm_of (List.mem_of_getElem? (i := 832) (by decide +kernel)) (by decide +kernel)
theorem ml_2_73 : Cond.methodLink cn_2 73 y2_nodesIn ∈ ce_cm := ce_cm_of (List.mem_of_getElem? (i := 829) (by decide +kernel)) (by decide +kernel)
theorem mi2_nodesIn : Cond.instanceMethod y2_nodesIn ∈ ce_cm := ce_cm_of (List.mem_of_getElem? (i := 830) (by decide +kernel)) (by decide +kernel)
theorem ms2_nodesIn : Cond.selects cn_2 y2_nodesIn y2_nodesIn ∈ ce_cm := ce_cm_of (List.mem_of_getElem? (i := 831) (by decide +kernel)) (by decide +kernel)
theorem mc2_cablesIn : Cond.code y2_cablesIn b2_cablesIn 2 (some .int) ∈ ce_cm := ce_cm_of (List.mem_of_getElem? (i := 827) (by decide +kernel)) (by decide +kernel)
theorem ml_2_70 : Cond.methodLink cn_2 70 y2_cablesIn ∈ ce_cm := ce_cm_of (List.mem_of_getElem? (i := 824) (by decide +kernel)) (by decide +kernel)
theorem mi2_cablesIn : Cond.instanceMethod y2_cablesIn ∈ ce_cm := ce_cm_of (List.mem_of_getElem? (i := 825) (by decide +kernel)) (by decide +kernel)
theorem ms2_cablesIn : Cond.selects cn_2 y2_cablesIn y2_cablesIn ∈ ce_cm := ce_cm_of (List.mem_of_getElem? (i := 826) (by decide +kernel)) (by decide +kernel)
def f2_hasLoop (F : Nat) (x1 : Int32) (h : Hp) : Option (Int32 × Hp) :=
  Option.bind (f2_cablesIn F x1 h) (fun o2 =>
    Option.bind (f2_nodesIn F x1 o2.2) (fun o7 =>
      if o2.1 < o7.1 then
        some ((0 : Int32), o7.2)
      else
        some ((1 : Int32), o7.2)))
set_option maxRecDepth 20000 in
theorem c2_hasLoop (l : Launch) (D : va_G) (ad : Nat → Nat) (cA : Nat → ClassId) (aK aV : Nat → Nat) (B0 : Nat) (hA : ce_Ad ad B0) (F : Nat) (x1 : Int32)  (h : Hp) (r : Int32 × Hp) (e : f2_hasLoop F x1 h = some r) : ce_Ct l D ad cA B0 (ce_St aK aV B0) y2_hasLoop b2_hasLoop 2 (some .boolean) 2 42 0 0 [.ref (ad 44), .int x1] h (some (.int r.1)) r.2 := by
  refine ce_enter hA (by decide) rfl (Nat.le_of_ble_eq_true rfl) (fun p e0 s m below meth c ls C hH hl => ?_)
  have hl : lv_has ls 2 [(0, .ref (ad 44)), (1, .int x1)] := hl
  have hx := C.1
  have hb := C.2.1
  have e : Option.bind _ some = some r := (congrArg (fun z => Option.bind z some) e).trans rfl
  unfold f2_hasLoop at e
  refine lv_aload_n hx hb d2_hasLoop_0 rfl (lv_at hl 0 rfl) ?_
  refine lv_iload_n hx hb d2_hasLoop_1 rfl (lv_at hl 1 rfl) ?_
  obtain ⟨o2, eo2, e⟩ := ce_bd e
  refine ce_callV (As := [.int x1]) (rest := []) C (ce_sok aK aV B0) hH (c2_cablesIn l D ad cA aK aV B0 C.2.2.2.2.2.2.1 F x1  h o2 eo2) lo_44.1 lo_44.2.choose_spec rfl rfl mc2_cablesIn ml_2_70 mi2_cablesIn ms2_cablesIn mI_2 (n := 1) (by decide) rfl ⟨Nat.le_of_ble_eq_true rfl, Nat.le_of_ble_eq_true rfl⟩ ⟨Nat.le_of_ble_eq_true rfl, Nat.le_of_ble_eq_true rfl⟩ hl.1 rfl (Nat.le_of_ble_eq_true rfl) d2_hasLoop_2 (fun H locs hH => ?_)
  refine W.eq (g2 := F0 m 5 ls [.int o2.1]) rfl ?_
  refine lv_aload_n hx hb d2_hasLoop_5 rfl (lv_at hl 0 rfl) ?_
  refine lv_iload_n hx hb d2_hasLoop_6 rfl (lv_at hl 1 rfl) ?_
  obtain ⟨o7, eo7, e⟩ := ce_bd e
  refine ce_callV (As := [.int x1]) (rest := [.int o2.1]) C (ce_sok aK aV B0) hH (c2_nodesIn l D ad cA aK aV B0 C.2.2.2.2.2.2.1 F x1  o2.2 o7 eo7) lo_44.1 lo_44.2.choose_spec rfl rfl mc2_nodesIn ml_2_73 mi2_nodesIn ms2_nodesIn mI_2 (n := 1) (by decide) rfl ⟨Nat.le_of_ble_eq_true rfl, Nat.le_of_ble_eq_true rfl⟩ ⟨Nat.le_of_ble_eq_true rfl, Nat.le_of_ble_eq_true rfl⟩ hl.1 rfl (Nat.le_of_ble_eq_true rfl) d2_hasLoop_7 (fun H locs hH => ?_)
  refine W.eq (g2 := F0 m 10 ls [.int o7.1, .int o2.1]) rfl ?_
  refine lv_icmp_lt (tgt := 17) hx hb d2_hasLoop_10 (by decide) (fun hc10 => ?_) (fun hc10 => ?_)
  · have e := ce_if1 e hc10
    refine lv_iconst (v := (0 : Int32)) hx hb d2_hasLoop_17 (by decide) ?_
    exact ce_zretE C (ce_sok aK aV B0) hH (Or.inl rfl) e d2_hasLoop_18
  · have e := ce_if0 e hc10
    refine lv_iconst (v := (1 : Int32)) hx hb d2_hasLoop_13 (by decide) ?_
    refine lv_goto (tgt := 18) hx hb d2_hasLoop_14 (by decide) ?_
    exact ce_zretE C (ce_sok aK aV B0) hH (Or.inr rfl) e d2_hasLoop_18
abbrev b3_callBy : ByteArray := prog_5_method_4_code
def y3_callBy : MethodName := ⟨cn_3, "callBy", "(LCableElection$Net;II)V"⟩
theorem d3_callBy_0 : decode b3_callBy 0 = .ok (.iload_n 2, 1) := by decide +kernel
theorem d3_callBy_1 : decode b3_callBy 1 = .ok (.invokestatic 89, 3) := by decide +kernel
theorem d3_callBy_4 : decode b3_callBy 4 = .ok (.istore 4, 2) := by decide +kernel
theorem d3_callBy_6 : decode b3_callBy 6 = .ok (.aload_n 0, 1) := by decide +kernel
theorem d3_callBy_7 : decode b3_callBy 7 = .ok (.getfield 9, 3) := by decide +kernel
theorem d3_callBy_10 : decode b3_callBy 10 = .ok (.iload 4, 2) := by decide +kernel
theorem d3_callBy_12 : decode b3_callBy 12 = .ok (.iload_n 3, 1) := by decide +kernel
theorem d3_callBy_13 : decode b3_callBy 13 = .ok (.iastore, 1) := by decide +kernel
theorem d3_callBy_14 : decode b3_callBy 14 = .ok (.aload_n 0, 1) := by decide +kernel
theorem d3_callBy_15 : decode b3_callBy 15 = .ok (.getfield 21, 3) := by decide +kernel
theorem d3_callBy_18 : decode b3_callBy 18 = .ok (.iload 4, 2) := by decide +kernel
theorem d3_callBy_20 : decode b3_callBy 20 = .ok (.iload_n 2, 1) := by decide +kernel
theorem d3_callBy_21 : decode b3_callBy 21 = .ok (.iastore, 1) := by decide +kernel
theorem d3_callBy_22 : decode b3_callBy 22 = .ok (.aload_n 0, 1) := by decide +kernel
theorem d3_callBy_23 : decode b3_callBy 23 = .ok (.getfield 27, 3) := by decide +kernel
theorem d3_callBy_26 : decode b3_callBy 26 = .ok (.aload_n 1, 1) := by decide +kernel
theorem d3_callBy_27 : decode b3_callBy 27 = .ok (.getfield 92, 3) := by decide +kernel
theorem d3_callBy_30 : decode b3_callBy 30 = .ok (.iload_n 2, 1) := by decide +kernel
theorem d3_callBy_31 : decode b3_callBy 31 = .ok (.iaload, 1) := by decide +kernel
theorem d3_callBy_32 : decode b3_callBy 32 = .ok (.iload_n 3, 1) := by decide +kernel
theorem d3_callBy_33 : decode b3_callBy 33 = .ok (.aload_n 1, 1) := by decide +kernel
theorem d3_callBy_34 : decode b3_callBy 34 = .ok (.getfield 95, 3) := by decide +kernel
theorem d3_callBy_37 : decode b3_callBy 37 = .ok (.iload_n 2, 1) := by decide +kernel
theorem d3_callBy_38 : decode b3_callBy 38 = .ok (.iaload, 1) := by decide +kernel
theorem d3_callBy_39 : decode b3_callBy 39 = .ok (.iadd, 1) := by decide +kernel
theorem d3_callBy_40 : decode b3_callBy 40 = .ok (.iastore, 1) := by decide +kernel
theorem d3_callBy_41 : decode b3_callBy 41 = .ok (.return_, 1) := by decide +kernel
theorem fl_3_9 : Cond.fieldLink cn_3 9 (ft_3 0).1 (ft_3 0).2.1 (ft_3 0).2.2.1 ∈ ce_cm := ce_cm_of (List.mem_of_getElem? (i := 379) (by decide +kernel)) (by decide +kernel)
theorem gf_3_9 (C : ce_Cx p s m args c meth cc nL ret cn_3 D ad cA B0 (ce_St aK aV B0)) (hH : ce_H D ad cA B0 X s h H locs) {k : Nat} (hk : ce_isEl k) (hdg : decode cc pc = .ok (.getfield 9, 3)) (kk : W p l e0 R s m args below meth c H locs cells slots Q (F0 m (pc + 3) ls (.ref (ad (k + 1)) :: rest))) : W p l e0 R s m args below meth c H locs cells slots Q (F0 m pc ls (.ref (ad k) :: rest)) := by
  rcases hk with rfl | rfl
  · exact ce_get C hH (k := 48) (ci := 3) (j := 0) (N := 6) (sj := some (some 49)) (by decide) rfl rfl fw_3 (by decide) fl_3_9 rfl hdg kk
  · exact ce_get C hH (k := 55) (ci := 3) (j := 0) (N := 6) (sj := some (some 56)) (by decide) rfl rfl fw_3 (by decide) fl_3_9 rfl hdg kk
theorem la_El_1 {k : Nat} (hk : ce_isEl k) : k + 1 < 96 ∧ ce_lay (k + 1) = .inl (0, 10) := by rcases hk with rfl | rfl <;> exact ⟨by decide, rfl⟩
theorem fl_3_21 : Cond.fieldLink cn_3 21 (ft_3 3).1 (ft_3 3).2.1 (ft_3 3).2.2.1 ∈ ce_cm := ce_cm_of (List.mem_of_getElem? (i := 386) (by decide +kernel)) (by decide +kernel)
theorem gf_3_21 (C : ce_Cx p s m args c meth cc nL ret cn_3 D ad cA B0 (ce_St aK aV B0)) (hH : ce_H D ad cA B0 X s h H locs) {k : Nat} (hk : ce_isEl k) (hdg : decode cc pc = .ok (.getfield 21, 3)) (kk : W p l e0 R s m args below meth c H locs cells slots Q (F0 m (pc + 3) ls (.ref (ad (k + 4)) :: rest))) : W p l e0 R s m args below meth c H locs cells slots Q (F0 m pc ls (.ref (ad k) :: rest)) := by
  rcases hk with rfl | rfl
  · exact ce_get C hH (k := 48) (ci := 3) (j := 3) (N := 6) (sj := some (some 52)) (by decide) rfl rfl fw_3 (by decide) fl_3_21 rfl hdg kk
  · exact ce_get C hH (k := 55) (ci := 3) (j := 3) (N := 6) (sj := some (some 59)) (by decide) rfl rfl fw_3 (by decide) fl_3_21 rfl hdg kk
theorem la_El_4 {k : Nat} (hk : ce_isEl k) : k + 4 < 96 ∧ ce_lay (k + 4) = .inl (0, 10) := by rcases hk with rfl | rfl <;> exact ⟨by decide, rfl⟩
theorem fl_3_27 : Cond.fieldLink cn_3 27 (ft_3 5).1 (ft_3 5).2.1 (ft_3 5).2.2.1 ∈ ce_cm := ce_cm_of (List.mem_of_getElem? (i := 388) (by decide +kernel)) (by decide +kernel)
theorem gf_3_27 (C : ce_Cx p s m args c meth cc nL ret cn_3 D ad cA B0 (ce_St aK aV B0)) (hH : ce_H D ad cA B0 X s h H locs) {k : Nat} (hk : ce_isEl k) (hdg : decode cc pc = .ok (.getfield 27, 3)) (kk : W p l e0 R s m args below meth c H locs cells slots Q (F0 m (pc + 3) ls (.ref (ad (k + 6)) :: rest))) : W p l e0 R s m args below meth c H locs cells slots Q (F0 m pc ls (.ref (ad k) :: rest)) := by
  rcases hk with rfl | rfl
  · exact ce_get C hH (k := 48) (ci := 3) (j := 5) (N := 6) (sj := some (some 54)) (by decide) rfl rfl fw_3 (by decide) fl_3_27 rfl hdg kk
  · exact ce_get C hH (k := 55) (ci := 3) (j := 5) (N := 6) (sj := some (some 61)) (by decide) rfl rfl fw_3 (by decide) fl_3_27 rfl hdg kk
theorem fl_3_92 : Cond.fieldLink cn_3 92 (ft_5 9).1 (ft_5 9).2.1 (ft_5 9).2.2.1 ∈ ce_cm := ce_cm_of (List.mem_of_getElem? (i := 231) (by decide +kernel)) (by decide +kernel)
theorem gf_3_92 (C : ce_Cx p s m args c meth cc nL ret cn_3 D ad cA B0 (ce_St aK aV B0)) (hH : ce_H D ad cA B0 X s h H locs) {k : Nat} (hk : ce_isNet k) (hdg : decode cc pc = .ok (.getfield 92, 3)) (kk : W p l e0 R s m args below meth c H locs cells slots Q (F0 m (pc + 3) ls (.ref (ad (k + 5)) :: rest))) : W p l e0 R s m args below meth c H locs cells slots Q (F0 m pc ls (.ref (ad k) :: rest)) := by
  rcases hk with rfl | rfl
  · exact ce_get C hH (k := 7) (ci := 5) (j := 9) (N := 11) (sj := some (some 12)) (by decide) rfl rfl fw_5 (by decide) fl_3_92 rfl hdg kk
  · exact ce_get C hH (k := 14) (ci := 5) (j := 9) (N := 11) (sj := some (some 19)) (by decide) rfl rfl fw_5 (by decide) fl_3_92 rfl hdg kk
theorem fl_3_95 : Cond.fieldLink cn_3 95 (ft_5 10).1 (ft_5 10).2.1 (ft_5 10).2.2.1 ∈ ce_cm := ce_cm_of (List.mem_of_getElem? (i := 236) (by decide +kernel)) (by decide +kernel)
theorem gf_3_95 (C : ce_Cx p s m args c meth cc nL ret cn_3 D ad cA B0 (ce_St aK aV B0)) (hH : ce_H D ad cA B0 X s h H locs) {k : Nat} (hk : ce_isNet k) (hdg : decode cc pc = .ok (.getfield 95, 3)) (kk : W p l e0 R s m args below meth c H locs cells slots Q (F0 m (pc + 3) ls (.ref (ad (k + 6)) :: rest))) : W p l e0 R s m args below meth c H locs cells slots Q (F0 m pc ls (.ref (ad k) :: rest)) := by
  rcases hk with rfl | rfl
  · exact ce_get C hH (k := 7) (ci := 5) (j := 10) (N := 11) (sj := some (some 13)) (by decide) rfl rfl fw_5 (by decide) fl_3_95 rfl hdg kk
  · exact ce_get C hH (k := 14) (ci := 5) (j := 10) (N := 11) (sj := some (some 20)) (by decide) rfl rfl fw_5 (by decide) fl_3_95 rfl hdg kk
theorem la_El_6 {k : Nat} (hk : ce_isEl k) : k + 6 < 96 ∧ ce_lay (k + 6) = .inl (0, 40) := by rcases hk with rfl | rfl <;> exact ⟨by decide, rfl⟩
def f3_callBy (F : Nat) (k0 : Nat) (k1 : Nat) (x2 : Int32) (x3 : Int32) (h : Hp) : Option (Hp) :=
  Option.bind (f11_nodeOf F x2 h) (fun o1 =>
    if ce_in o1.1 10 = true then
      ce_nm (hp_up o1.2 (k0 + 1) (o1.1).toNatClampNeg x3) (fun h_13 =>
        if ce_in o1.1 10 = true then
          ce_nm (hp_up h_13 (k0 + 4) (o1.1).toNatClampNeg x2) (fun h_21 =>
            if ce_in x2 40 = true then
              if ce_in x2 40 = true then
                if ce_in (h_21 (k1 + 5) (x2).toNatClampNeg) 40 = true then
                  ce_nm (hp_up h_21 (k0 + 6) ((h_21 (k1 + 5) (x2).toNatClampNeg)).toNatClampNeg (x3 + (h_21 (k1 + 6) (x2).toNatClampNeg))) (fun h_40 =>
                    some h_40)
                else none
              else none
            else none)
        else none)
    else none)
set_option maxRecDepth 20000 in
theorem c3_callBy (l : Launch) (D : va_G) (ad : Nat → Nat) (cA : Nat → ClassId) (aK aV : Nat → Nat) (B0 : Nat) (hA : ce_Ad ad B0) (F : Nat) (k0 : Nat) (k1 : Nat) (x2 : Int32) (x3 : Int32) (hk0 : ce_isEl k0) (hk1 : ce_isNet k1) (h : Hp) (r : Hp) (e : f3_callBy F k0 k1 x2 x3 h = some r) : ce_Ct l D ad cA B0 (ce_St aK aV B0) y3_callBy b3_callBy 5 none 1 20 0 0 [.ref (ad k0), .ref (ad k1), .int x2, .int x3] h none r := by
  refine ce_enter hA (by decide) rfl (Nat.le_of_ble_eq_true rfl) (fun p e0 s m below meth c ls C hH hl => ?_)
  have hl : lv_has ls 5 [(0, .ref (ad k0)), (1, .ref (ad k1)), (2, .int x2), (3, .int x3)] := hl
  have hx := C.1
  have hb := C.2.1
  have e : Option.bind _ some = some r := (congrArg (fun z => Option.bind z some) e).trans rfl
  unfold f3_callBy at e
  refine lv_iload_n hx hb d3_callBy_0 rfl (lv_at hl 2 rfl) ?_
  obtain ⟨o1, eo1, e⟩ := ce_bd e
  refine ce_callN (As := [.int x2]) (rest := []) C (ce_sok aK aV B0) hH (c11_nodeOf l D ad cA aK aV B0 C.2.2.2.2.2.2.1 F x2  h o1 eo1) mc11_nodeOf (ce_nwW C.2.2.2.2.2.2.2.2.2.2 16 rfl) mt11_nodeOf mI_11 (n := 1) (by decide) rfl ⟨Nat.le_of_ble_eq_true rfl, Nat.le_of_ble_eq_true rfl⟩ ⟨Nat.le_of_ble_eq_true rfl, Nat.le_of_ble_eq_true rfl⟩ hl.1 rfl (Nat.le_of_ble_eq_true rfl) d3_callBy_1 (fun H locs hH => ?_)
  refine W.eq (g2 := F0 m 4 ls [.int o1.1]) rfl ?_
  refine lv_istore (lv' := [(4, .int o1.1), (0, .ref (ad k0)), (1, .ref (ad k1)), (2, .int x2), (3, .int x3)]) hx hb d3_callBy_4 hl (by decide) rfl (fun ls hl => ?_)
  refine lv_aload_n hx hb d3_callBy_6 rfl (lv_at hl 1 rfl) ?_
  refine gf_3_9 C hH hk0 d3_callBy_7 ?_
  refine lv_iload hx hb d3_callBy_10 (lv_at hl 0 rfl) ?_
  refine lv_iload_n hx hb d3_callBy_12 rfl (lv_at hl 4 rfl) ?_
  obtain ⟨hi13, e⟩ := ce_gd e
  refine ce_iast C hH (la_El_1 hk0).1 (la_El_1 hk0).2 (ce_in_vp hi13) d3_callBy_13 (fun H locs hH => ?_)
  obtain ⟨h_13, eh_13, e⟩ := ce_nmE e
  rw [← eh_13] at hH
  refine lv_aload_n hx hb d3_callBy_14 rfl (lv_at hl 1 rfl) ?_
  refine gf_3_21 C hH hk0 d3_callBy_15 ?_
  refine lv_iload hx hb d3_callBy_18 (lv_at hl 0 rfl) ?_
  refine lv_iload_n hx hb d3_callBy_20 rfl (lv_at hl 3 rfl) ?_
  obtain ⟨hi21, e⟩ := ce_gd e
  refine ce_iast C hH (la_El_4 hk0).1 (la_El_4 hk0).2 (ce_in_vp hi21) d3_callBy_21 (fun H locs hH => ?_)
  obtain ⟨h_21, eh_21, e⟩ := ce_nmE e
  rw [← eh_21] at hH
  refine lv_aload_n hx hb d3_callBy_22 rfl (lv_at hl 1 rfl) ?_
  refine gf_3_27 C hH hk0 d3_callBy_23 ?_
  refine lv_aload_n hx hb d3_callBy_26 rfl (lv_at hl 2 rfl) ?_
  refine gf_3_92 C hH hk1 d3_callBy_27 ?_
  refine lv_iload_n hx hb d3_callBy_30 rfl (lv_at hl 3 rfl) ?_
  obtain ⟨hi31, e⟩ := ce_gd e
  refine ce_iald C hH (la_Net_5 hk1).1 (la_Net_5 hk1).2 (ce_in_vp hi31) d3_callBy_31 ?_
  refine lv_iload_n hx hb d3_callBy_32 rfl (lv_at hl 4 rfl) ?_
  refine lv_aload_n hx hb d3_callBy_33 rfl (lv_at hl 2 rfl) ?_
  refine gf_3_95 C hH hk1 d3_callBy_34 ?_
  refine lv_iload_n hx hb d3_callBy_37 rfl (lv_at hl 3 rfl) ?_
  obtain ⟨hi38, e⟩ := ce_gd e
  refine ce_iald C hH (la_Net_6 hk1).1 (la_Net_6 hk1).2 (ce_in_vp hi38) d3_callBy_38 ?_
  refine lv_iadd hx hb d3_callBy_39 ?_
  obtain ⟨hi40, e⟩ := ce_gd e
  refine ce_iast C hH (la_El_6 hk0).1 (la_El_6 hk0).2 (ce_in_vp hi40) d3_callBy_40 (fun H locs hH => ?_)
  obtain ⟨h_40, eh_40, e⟩ := ce_nmE e
  rw [← eh_40] at hH
  exact ce_vret C (ce_sok aK aV B0) hH (Option.some.inj e) d3_callBy_41
abbrev b3_listen : ByteArray := prog_5_method_3_code
def y3_listen : MethodName := ⟨cn_3, "listen", "(LCableElection$Net;III)V"⟩
theorem d3_listen_0 : decode b3_listen 0 = .ok (.aload_n 0, 1) := by decide +kernel
theorem d3_listen_1 : decode b3_listen 1 = .ok (.getfield 9, 3) := by decide +kernel
theorem d3_listen_4 : decode b3_listen 4 = .ok (.iload_n 2, 1) := by decide +kernel
theorem d3_listen_5 : decode b3_listen 5 = .ok (.iaload, 1) := by decide +kernel
theorem d3_listen_6 : decode b3_listen 6 = .ok (.iconst (-1), 1) := by decide +kernel
theorem d3_listen_7 : decode b3_listen 7 = .ok (.if_icmp .ne 13, 3) := by decide +kernel
theorem d3_listen_10 : decode b3_listen 10 = .ok (.aload_n 0, 1) := by decide +kernel
theorem d3_listen_11 : decode b3_listen 11 = .ok (.getfield 15, 3) := by decide +kernel
theorem d3_listen_14 : decode b3_listen 14 = .ok (.iload_n 2, 1) := by decide +kernel
theorem d3_listen_15 : decode b3_listen 15 = .ok (.iaload, 1) := by decide +kernel
theorem d3_listen_16 : decode b3_listen 16 = .ok (.iconst (-1), 1) := by decide +kernel
theorem d3_listen_17 : decode b3_listen 17 = .ok (.if_icmp .eq 4, 3) := by decide +kernel
theorem d3_listen_20 : decode b3_listen 20 = .ok (.return_, 1) := by decide +kernel
theorem d3_listen_21 : decode b3_listen 21 = .ok (.iconst 0, 1) := by decide +kernel
theorem d3_listen_22 : decode b3_listen 22 = .ok (.istore 5, 2) := by decide +kernel
theorem d3_listen_24 : decode b3_listen 24 = .ok (.iconst (-1), 1) := by decide +kernel
theorem d3_listen_25 : decode b3_listen 25 = .ok (.istore 6, 2) := by decide +kernel
theorem d3_listen_27 : decode b3_listen 27 = .ok (.iconst 0, 1) := by decide +kernel
theorem d3_listen_28 : decode b3_listen 28 = .ok (.istore 7, 2) := by decide +kernel
theorem d3_listen_30 : decode b3_listen 30 = .ok (.iload 7, 2) := by decide +kernel
theorem d3_listen_32 : decode b3_listen 32 = .ok (.aload_n 1, 1) := by decide +kernel
theorem d3_listen_33 : decode b3_listen 33 = .ok (.getfield 70, 3) := by decide +kernel
theorem d3_listen_36 : decode b3_listen 36 = .ok (.iload_n 2, 1) := by decide +kernel
theorem d3_listen_37 : decode b3_listen 37 = .ok (.iaload, 1) := by decide +kernel
theorem d3_listen_38 : decode b3_listen 38 = .ok (.if_icmp .ge 44, 3) := by decide +kernel
theorem d3_listen_41 : decode b3_listen 41 = .ok (.iload_n 2, 1) := by decide +kernel
theorem d3_listen_42 : decode b3_listen 42 = .ok (.iload 7, 2) := by decide +kernel
theorem d3_listen_44 : decode b3_listen 44 = .ok (.invokestatic 73, 3) := by decide +kernel
theorem d3_listen_47 : decode b3_listen 47 = .ok (.istore 8, 2) := by decide +kernel
theorem d3_listen_49 : decode b3_listen 49 = .ok (.aload_n 1, 1) := by decide +kernel
theorem d3_listen_50 : decode b3_listen 50 = .ok (.iload 8, 2) := by decide +kernel
theorem d3_listen_52 : decode b3_listen 52 = .ok (.invokevirtual 77, 3) := by decide +kernel
theorem d3_listen_55 : decode b3_listen 55 = .ok (.ifCond .eq 21, 3) := by decide +kernel
theorem d3_listen_58 : decode b3_listen 58 = .ok (.aload_n 0, 1) := by decide +kernel
theorem d3_listen_59 : decode b3_listen 59 = .ok (.getfield 27, 3) := by decide +kernel
theorem d3_listen_62 : decode b3_listen 62 = .ok (.iload 8, 2) := by decide +kernel
theorem d3_listen_64 : decode b3_listen 64 = .ok (.iaload, 1) := by decide +kernel
theorem d3_listen_65 : decode b3_listen 65 = .ok (.iload_n 3, 1) := by decide +kernel
theorem d3_listen_66 : decode b3_listen 66 = .ok (.if_icmp .le 10, 3) := by decide +kernel
theorem d3_listen_69 : decode b3_listen 69 = .ok (.iinc 5 1, 3) := by decide +kernel
theorem d3_listen_72 : decode b3_listen 72 = .ok (.iload 8, 2) := by decide +kernel
theorem d3_listen_74 : decode b3_listen 74 = .ok (.istore 6, 2) := by decide +kernel
theorem d3_listen_76 : decode b3_listen 76 = .ok (.iinc 7 1, 3) := by decide +kernel
theorem d3_listen_79 : decode b3_listen 79 = .ok (.goto (-49), 3) := by decide +kernel
theorem d3_listen_82 : decode b3_listen 82 = .ok (.iload 5, 2) := by decide +kernel
theorem d3_listen_84 : decode b3_listen 84 = .ok (.ifCond .ne 13, 3) := by decide +kernel
theorem d3_listen_87 : decode b3_listen 87 = .ok (.aload_n 0, 1) := by decide +kernel
theorem d3_listen_88 : decode b3_listen 88 = .ok (.getfield 15, 3) := by decide +kernel
theorem d3_listen_91 : decode b3_listen 91 = .ok (.iload_n 2, 1) := by decide +kernel
theorem d3_listen_92 : decode b3_listen 92 = .ok (.iload_n 3, 1) := by decide +kernel
theorem d3_listen_93 : decode b3_listen 93 = .ok (.iastore, 1) := by decide +kernel
theorem d3_listen_94 : decode b3_listen 94 = .ok (.goto 46, 3) := by decide +kernel
theorem d3_listen_97 : decode b3_listen 97 = .ok (.iload 5, 2) := by decide +kernel
theorem d3_listen_99 : decode b3_listen 99 = .ok (.iconst 1, 1) := by decide +kernel
theorem d3_listen_100 : decode b3_listen 100 = .ok (.if_icmp .ne 40, 3) := by decide +kernel
theorem d3_listen_103 : decode b3_listen 103 = .ok (.aload_n 0, 1) := by decide +kernel
theorem d3_listen_104 : decode b3_listen 104 = .ok (.getfield 24, 3) := by decide +kernel
theorem d3_listen_107 : decode b3_listen 107 = .ok (.iload_n 2, 1) := by decide +kernel
theorem d3_listen_108 : decode b3_listen 108 = .ok (.aload_n 0, 1) := by decide +kernel
theorem d3_listen_109 : decode b3_listen 109 = .ok (.getfield 24, 3) := by decide +kernel
theorem d3_listen_112 : decode b3_listen 112 = .ok (.iload_n 2, 1) := by decide +kernel
theorem d3_listen_113 : decode b3_listen 113 = .ok (.iaload, 1) := by decide +kernel
theorem d3_listen_114 : decode b3_listen 114 = .ok (.iload_n 3, 1) := by decide +kernel
theorem d3_listen_115 : decode b3_listen 115 = .ok (.iload 4, 2) := by decide +kernel
theorem d3_listen_117 : decode b3_listen 117 = .ok (.iadd, 1) := by decide +kernel
theorem d3_listen_118 : decode b3_listen 118 = .ok (.invokestatic 80, 3) := by decide +kernel
theorem d3_listen_121 : decode b3_listen 121 = .ok (.iastore, 1) := by decide +kernel
theorem d3_listen_122 : decode b3_listen 122 = .ok (.iload_n 3, 1) := by decide +kernel
theorem d3_listen_123 : decode b3_listen 123 = .ok (.aload_n 0, 1) := by decide +kernel
theorem d3_listen_124 : decode b3_listen 124 = .ok (.getfield 24, 3) := by decide +kernel
theorem d3_listen_127 : decode b3_listen 127 = .ok (.iload_n 2, 1) := by decide +kernel
theorem d3_listen_128 : decode b3_listen 128 = .ok (.iaload, 1) := by decide +kernel
theorem d3_listen_129 : decode b3_listen 129 = .ok (.if_icmp .lt 11, 3) := by decide +kernel
theorem d3_listen_132 : decode b3_listen 132 = .ok (.aload_n 0, 1) := by decide +kernel
theorem d3_listen_133 : decode b3_listen 133 = .ok (.aload_n 1, 1) := by decide +kernel
theorem d3_listen_134 : decode b3_listen 134 = .ok (.iload 6, 2) := by decide +kernel
theorem d3_listen_136 : decode b3_listen 136 = .ok (.iload_n 3, 1) := by decide +kernel
theorem d3_listen_137 : decode b3_listen 137 = .ok (.invokevirtual 85, 3) := by decide +kernel
theorem d3_listen_140 : decode b3_listen 140 = .ok (.return_, 1) := by decide +kernel
theorem fl_3_15 : Cond.fieldLink cn_3 15 (ft_3 1).1 (ft_3 1).2.1 (ft_3 1).2.2.1 ∈ ce_cm := ce_cm_of (List.mem_of_getElem? (i := 381) (by decide +kernel)) (by decide +kernel)
theorem gf_3_15 (C : ce_Cx p s m args c meth cc nL ret cn_3 D ad cA B0 (ce_St aK aV B0)) (hH : ce_H D ad cA B0 X s h H locs) {k : Nat} (hk : ce_isEl k) (hdg : decode cc pc = .ok (.getfield 15, 3)) (kk : W p l e0 R s m args below meth c H locs cells slots Q (F0 m (pc + 3) ls (.ref (ad (k + 2)) :: rest))) : W p l e0 R s m args below meth c H locs cells slots Q (F0 m pc ls (.ref (ad k) :: rest)) := by
  rcases hk with rfl | rfl
  · exact ce_get C hH (k := 48) (ci := 3) (j := 1) (N := 6) (sj := some (some 50)) (by decide) rfl rfl fw_3 (by decide) fl_3_15 rfl hdg kk
  · exact ce_get C hH (k := 55) (ci := 3) (j := 1) (N := 6) (sj := some (some 57)) (by decide) rfl rfl fw_3 (by decide) fl_3_15 rfl hdg kk
theorem la_El_2 {k : Nat} (hk : ce_isEl k) : k + 2 < 96 ∧ ce_lay (k + 2) = .inl (0, 10) := by rcases hk with rfl | rfl <;> exact ⟨by decide, rfl⟩
theorem fl_3_70 : Cond.fieldLink cn_3 70 (ft_5 5).1 (ft_5 5).2.1 (ft_5 5).2.2.1 ∈ ce_cm := ce_cm_of (List.mem_of_getElem? (i := 214) (by decide +kernel)) (by decide +kernel)
theorem gf_3_70 (C : ce_Cx p s m args c meth cc nL ret cn_3 D ad cA B0 (ce_St aK aV B0)) (hH : ce_H D ad cA B0 X s h H locs) {k : Nat} (hk : ce_isNet k) (hdg : decode cc pc = .ok (.getfield 70, 3)) (kk : W p l e0 R s m args below meth c H locs cells slots Q (F0 m (pc + 3) ls (.ref (ad (k + 1)) :: rest))) : W p l e0 R s m args below meth c H locs cells slots Q (F0 m pc ls (.ref (ad k) :: rest)) := by
  rcases hk with rfl | rfl
  · exact ce_get C hH (k := 7) (ci := 5) (j := 5) (N := 11) (sj := some (some 8)) (by decide) rfl rfl fw_5 (by decide) fl_3_70 rfl hdg kk
  · exact ce_get C hH (k := 14) (ci := 5) (j := 5) (N := 11) (sj := some (some 15)) (by decide) rfl rfl fw_5 (by decide) fl_3_70 rfl hdg kk
theorem ml_3_77 : Cond.methodLink cn_3 77 y5_isCabled ∈ ce_cm := ce_cm_of (List.mem_of_getElem? (i := 733) (by decide +kernel)) (by decide +kernel)
theorem fl_3_24 : Cond.fieldLink cn_3 24 (ft_3 4).1 (ft_3 4).2.1 (ft_3 4).2.2.1 ∈ ce_cm := ce_cm_of (List.mem_of_getElem? (i := 387) (by decide +kernel)) (by decide +kernel)
theorem gf_3_24 (C : ce_Cx p s m args c meth cc nL ret cn_3 D ad cA B0 (ce_St aK aV B0)) (hH : ce_H D ad cA B0 X s h H locs) {k : Nat} (hk : ce_isEl k) (hdg : decode cc pc = .ok (.getfield 24, 3)) (kk : W p l e0 R s m args below meth c H locs cells slots Q (F0 m (pc + 3) ls (.ref (ad (k + 5)) :: rest))) : W p l e0 R s m args below meth c H locs cells slots Q (F0 m pc ls (.ref (ad k) :: rest)) := by
  rcases hk with rfl | rfl
  · exact ce_get C hH (k := 48) (ci := 3) (j := 4) (N := 6) (sj := some (some 53)) (by decide) rfl rfl fw_3 (by decide) fl_3_24 rfl hdg kk
  · exact ce_get C hH (k := 55) (ci := 3) (j := 4) (N := 6) (sj := some (some 60)) (by decide) rfl rfl fw_3 (by decide) fl_3_24 rfl hdg kk
theorem la_El_5 {k : Nat} (hk : ce_isEl k) : k + 5 < 96 ∧ ce_lay (k + 5) = .inl (0, 10) := by rcases hk with rfl | rfl <;> exact ⟨by decide, rfl⟩
abbrev b9_min_7cf53 : ByteArray := prog_15_method_69_code
def y9_min_7cf53 : MethodName := ⟨"java/lang/Math", "min", "(II)I"⟩
theorem lk_El {k : Nat} (hk : ce_isEl k) : k < 96 ∧ ∃ sl, ce_lay k = .inr (3, sl) := by rcases hk with rfl | rfl <;> exact ⟨by decide, _, rfl⟩
theorem ml_3_80 : Cond.methodLink cn_3 80 Lib.Math.min.name ∈ ce_cm := ce_cm_of (List.mem_of_getElem? (i := 734) (by decide +kernel)) (by decide +kernel)
theorem mt_Mmin : Cond.static Lib.Math.min.name ∈ ce_cm := ce_cm_of (List.mem_of_getElem? (i := 735) (by decide +kernel)) (by decide +kernel)
theorem mc_Mmin : Cond.code Lib.Math.min.name Lib.Math.min.code 2 (some .int) ∈ ce_cm := ce_cm_of (List.mem_of_getElem? (i := 736) (by decide +kernel)) (by decide +kernel)
theorem mc3_callBy : Cond.code y3_callBy b3_callBy 5 none ∈ ce_cm := ce_cm_of (List.mem_of_getElem? (i := 740) (by decide +kernel)) (by decide +kernel)
theorem ml_3_85 : Cond.methodLink cn_3 85 y3_callBy ∈ ce_cm := ce_cm_of (List.mem_of_getElem? (i := 737) (by decide +kernel)) (by decide +kernel)
theorem mi3_callBy : Cond.instanceMethod y3_callBy ∈ ce_cm := ce_cm_of (List.mem_of_getElem? (i := 739) (by decide +kernel)) (by decide +kernel)
theorem ms3_callBy : Cond.selects cn_3 y3_callBy y3_callBy ∈ ce_cm := ce_cm_of (List.mem_of_getElem? (i := 14) (by decide +kernel)) (by decide +kernel)
theorem mI_3 : Cond.initialized cn_3 ∈ ce_cm := ce_cm_of (List.mem_of_getElem? (i := 100) (by decide +kernel)) (by decide +kernel)
def f3_listen_b30 (F : Nat) (k0 : Nat) (k1 : Nat) (x2 : Int32) (x3 : Int32) (x4 : Int32) (x5 : Int32) (x6 : Int32) (x7 : Int32) (h : Hp) : Option ((Int32 × Int32 × Int32 × Hp) ⊕ (Int32 × Int32 × Hp)) :=
  if ce_in x2 10 = true then
    if (h (k1 + 1) (x2).toNatClampNeg) ≤ x7 then
      some (.inr (x5, x6, h))
    else
      Option.bind (f11_endOf F x2 x7 h) (fun o44 =>
        Option.bind (f5_isCabled F k1 o44.1 o44.2) (fun o52 =>
          if o52.1 = 0 then
            some (.inl (x5, x6, x7 + (1 : Int32), o52.2))
          else
            if ce_in o44.1 40 = true then
              if (o52.2 (k0 + 6) (o44.1).toNatClampNeg) ≤ x3 then
                some (.inl (x5, x6, x7 + (1 : Int32), o52.2))
              else
                some (.inl (x5 + (1 : Int32), o44.1, x7 + (1 : Int32), o52.2))
            else none))
  else none
set_option maxRecDepth 20000 in
theorem l3_listen_30 (C : ce_Cx p s m args c meth b3_listen 9 none cn_3 D ad cA B0 (ce_St aK aV B0)) (F : Nat) (k0 : Nat) (k1 : Nat) (x2 : Int32) (x3 : Int32) (x4 : Int32) (hk0 : ce_isEl k0) (hk1 : ce_isNet k1) (r : Hp) (g : (Int32 × Int32 × Hp) → Option (Hp)) (hx : ∀ (x5 : Int32) (x6 : Int32) (h : Hp) (H : Heap) (locs : List Loc) (ls : Array Slot), ce_H D ad cA B0 [] s h H locs → lv_has ls 9 [(0, .ref (ad k0)), (1, .ref (ad k1)), (2, .int x2), (3, .int x3), (4, .int x4), (5, .int x5), (6, .int x6)] → g (x5, x6, h) = some r → W p l e0 { frames := 2, cells := 0, slots := 0, locals := 44 } s m args below meth c H locs 0 0 (MQ below (ce_Q D ad cA B0 (ce_St aK aV B0) none r) args s 0 0 (fun q => B0 ≤ q)) (F0 m 82 ls [])) : ∀ (n : Nat) (x5 : Int32) (x6 : Int32) (x7 : Int32) (h : Hp) (H : Heap) (locs : List Loc) (ls : Array Slot), ce_H D ad cA B0 [] s h H locs → lv_has ls 9 [(0, .ref (ad k0)), (1, .ref (ad k1)), (2, .int x2), (3, .int x3), (4, .int x4), (5, .int x5), (6, .int x6), (7, .int x7)] → Option.bind (ce_it (fun (st : Int32 × Int32 × Int32 × Hp) => f3_listen_b30 F k0 k1 x2 x3 x4 st.1 st.2.1 st.2.2.1 st.2.2.2) n (x5, x6, x7, h)) g = some r → W p l e0 { frames := 2, cells := 0, slots := 0, locals := 44 } s m args below meth c H locs 0 0 (MQ below (ce_Q D ad cA B0 (ce_St aK aV B0) none r) args s 0 0 (fun q => B0 ≤ q)) (F0 m 30 ls []) := by
  intro n
  induction n with
  | zero =>
    intro x5 x6 x7 h H locs ls hH hl e
    exact absurd e (fun z => by cases z)
  | succ n ih =>
    intro x5 x6 x7 h H locs ls hH hl e
    have hx9 := C.1
    have hb := C.2.1
    have e : Option.bind (f3_listen_b30 F k0 k1 x2 x3 x4 x5 x6 x7 h) _ = some r := ce_it_bd e
    unfold f3_listen_b30 at e
    refine lv_iload hx9 hb d3_listen_30 (lv_at hl 7 rfl) ?_
    refine lv_aload_n hx9 hb d3_listen_32 rfl (lv_at hl 1 rfl) ?_
    refine gf_3_70 C hH hk1 d3_listen_33 ?_
    refine lv_iload_n hx9 hb d3_listen_36 rfl (lv_at hl 2 rfl) ?_
    obtain ⟨hi37, e⟩ := ce_gd e
    refine ce_iald C hH (la_Net_1 hk1).1 (la_Net_1 hk1).2 (ce_in_vp hi37) d3_listen_37 ?_
    refine lv_icmp_ge (tgt := 82) hx9 hb d3_listen_38 (by decide) (fun hc38 => ?_) (fun hc38 => ?_)
    · have e := ce_if1 e hc38
      exact hx x5 x6 h _ _ _ hH (lv_sub hl [0, 1, 2, 3, 4, 5, 6] rfl) e
    · have e := ce_if0 e hc38
      refine lv_iload_n hx9 hb d3_listen_41 rfl (lv_at hl 2 rfl) ?_
      refine lv_iload hx9 hb d3_listen_42 (lv_at hl 7 rfl) ?_
      obtain ⟨o44, eo44, e⟩ := ce_bd e
      refine ce_callN (As := [.int x2, .int x7]) (rest := []) C (ce_sok aK aV B0) hH (c11_endOf l D ad cA aK aV B0 C.2.2.2.2.2.2.1 F x2 x7  h o44 eo44) mc11_endOf (ce_nwW C.2.2.2.2.2.2.2.2.2.2 15 rfl) mt11_endOf mI_11 (n := 2) (by decide) rfl ⟨Nat.le_of_ble_eq_true rfl, Nat.le_of_ble_eq_true rfl⟩ ⟨Nat.le_of_ble_eq_true rfl, Nat.le_of_ble_eq_true rfl⟩ hl.1 rfl (Nat.le_of_ble_eq_true rfl) d3_listen_44 (fun H locs hH => ?_)
      refine W.eq (g2 := F0 m 47 ls [.int o44.1]) rfl ?_
      refine lv_istore (lv' := [(8, .int o44.1), (0, .ref (ad k0)), (1, .ref (ad k1)), (2, .int x2), (3, .int x3), (4, .int x4), (5, .int x5), (6, .int x6), (7, .int x7)]) hx9 hb d3_listen_47 hl (by decide) rfl (fun ls hl => ?_)
      refine lv_aload_n hx9 hb d3_listen_49 rfl (lv_at hl 2 rfl) ?_
      refine lv_iload hx9 hb d3_listen_50 (lv_at hl 0 rfl) ?_
      obtain ⟨o52, eo52, e⟩ := ce_bd e
      refine ce_callV (As := [.int o44.1]) (rest := []) C (ce_sok aK aV B0) hH (c5_isCabled l D ad cA aK aV B0 C.2.2.2.2.2.2.1 F k1 o44.1 hk1 o44.2 o52 eo52) (lk_Net hk1).1 (lk_Net hk1).2.choose_spec rfl rfl mc5_isCabled ml_3_77 mi5_isCabled ms5_isCabled mI_5 (n := 1) (by decide) rfl ⟨Nat.le_of_ble_eq_true rfl, Nat.le_of_ble_eq_true rfl⟩ ⟨Nat.le_of_ble_eq_true rfl, Nat.le_of_ble_eq_true rfl⟩ hl.1 rfl (Nat.le_of_ble_eq_true rfl) d3_listen_52 (fun H locs hH => ?_)
      refine W.eq (g2 := F0 m 55 ls [.int o52.1]) rfl ?_
      refine lv_if_eq (tgt := 76) hx9 hb d3_listen_55 (by decide) (fun hc55 => ?_) (fun hc55 => ?_)
      · have e := ce_if1 e hc55
        refine lv_iinc (v := x7 + (1 : Int32)) (lv' := [(7, .int (x7 + (1 : Int32))), (8, .int o44.1), (0, .ref (ad k0)), (1, .ref (ad k1)), (2, .int x2), (3, .int x3), (4, .int x4), (5, .int x5), (6, .int x6)]) hx9 hb d3_listen_76 hl (k := 8) rfl rfl (by decide) rfl (fun ls hl => ?_)
        refine lv_goto (tgt := 30) hx9 hb d3_listen_79 (by decide) ?_
        exact ih x5 x6 (x7 + (1 : Int32)) o52.2 _ _ _ hH (lv_sub hl [2, 3, 4, 5, 6, 7, 8, 0] rfl) e
      · have e := ce_if0 e hc55
        refine lv_aload_n hx9 hb d3_listen_58 rfl (lv_at hl 1 rfl) ?_
        refine gf_3_27 C hH hk0 d3_listen_59 ?_
        refine lv_iload hx9 hb d3_listen_62 (lv_at hl 0 rfl) ?_
        obtain ⟨hi64, e⟩ := ce_gd e
        refine ce_iald C hH (la_El_6 hk0).1 (la_El_6 hk0).2 (ce_in_vp hi64) d3_listen_64 ?_
        refine lv_iload_n hx9 hb d3_listen_65 rfl (lv_at hl 4 rfl) ?_
        refine lv_icmp_le (tgt := 76) hx9 hb d3_listen_66 (by decide) (fun hc66 => ?_) (fun hc66 => ?_)
        · have e := ce_if1 e hc66
          refine lv_iinc (v := x7 + (1 : Int32)) (lv' := [(7, .int (x7 + (1 : Int32))), (8, .int o44.1), (0, .ref (ad k0)), (1, .ref (ad k1)), (2, .int x2), (3, .int x3), (4, .int x4), (5, .int x5), (6, .int x6)]) hx9 hb d3_listen_76 hl (k := 8) rfl rfl (by decide) rfl (fun ls hl => ?_)
          refine lv_goto (tgt := 30) hx9 hb d3_listen_79 (by decide) ?_
          exact ih x5 x6 (x7 + (1 : Int32)) o52.2 _ _ _ hH (lv_sub hl [2, 3, 4, 5, 6, 7, 8, 0] rfl) e
        · have e := ce_if0 e hc66
          refine lv_iinc (v := x5 + (1 : Int32)) (lv' := [(5, .int (x5 + (1 : Int32))), (8, .int o44.1), (0, .ref (ad k0)), (1, .ref (ad k1)), (2, .int x2), (3, .int x3), (4, .int x4), (6, .int x6), (7, .int x7)]) hx9 hb d3_listen_69 hl (k := 6) rfl rfl (by decide) rfl (fun ls hl => ?_)
          refine lv_iload hx9 hb d3_listen_72 (lv_at hl 1 rfl) ?_
          refine lv_istore (lv' := [(6, .int o44.1), (5, .int (x5 + (1 : Int32))), (8, .int o44.1), (0, .ref (ad k0)), (1, .ref (ad k1)), (2, .int x2), (3, .int x3), (4, .int x4), (7, .int x7)]) hx9 hb d3_listen_74 hl (by decide) rfl (fun ls hl => ?_)
          refine lv_iinc (v := x7 + (1 : Int32)) (lv' := [(7, .int (x7 + (1 : Int32))), (6, .int o44.1), (5, .int (x5 + (1 : Int32))), (8, .int o44.1), (0, .ref (ad k0)), (1, .ref (ad k1)), (2, .int x2), (3, .int x3), (4, .int x4)]) hx9 hb d3_listen_76 hl (k := 8) rfl rfl (by decide) rfl (fun ls hl => ?_)
          refine lv_goto (tgt := 30) hx9 hb d3_listen_79 (by decide) ?_
          exact ih (x5 + (1 : Int32)) o44.1 (x7 + (1 : Int32)) o52.2 _ _ _ hH (lv_sub hl [4, 5, 6, 7, 8, 2, 1, 0] rfl) e
def f3_listen (F : Nat) (k0 : Nat) (k1 : Nat) (x2 : Int32) (x3 : Int32) (x4 : Int32) (h : Hp) : Option (Hp) :=
  if ce_in x2 10 = true then
    if (h (k0 + 1) (x2).toNatClampNeg) = (-1 : Int32) then
      if ce_in x2 10 = true then
        if (h (k0 + 2) (x2).toNatClampNeg) = (-1 : Int32) then
          Option.bind (ce_it (fun (st : Int32 × Int32 × Int32 × Hp) => f3_listen_b30 F k0 k1 x2 x3 x4 st.1 st.2.1 st.2.2.1 st.2.2.2) F ((0 : Int32), (-1 : Int32), (0 : Int32), h)) (fun o30 =>
            if o30.1 = 0 then
              if ce_in x2 10 = true then
                ce_nm (hp_up o30.2.2 (k0 + 2) (x2).toNatClampNeg x3) (fun h_93 =>
                  some h_93)
              else none
            else
              if o30.1 = (1 : Int32) then
                if ce_in x2 10 = true then
                  if ce_in x2 10 = true then
                    ce_nm (hp_up o30.2.2 (k0 + 5) (x2).toNatClampNeg (if (x3 + x4) < (o30.2.2 (k0 + 5) (x2).toNatClampNeg) then (x3 + x4) else (o30.2.2 (k0 + 5) (x2).toNatClampNeg))) (fun h_121 =>
                      if ce_in x2 10 = true then
                        if x3 < (h_121 (k0 + 5) (x2).toNatClampNeg) then
                          some h_121
                        else
                          Option.bind (f3_callBy F k0 k1 o30.2.1 x3 h_121) (fun o137 =>
                            some o137)
                      else none)
                  else none
                else none
              else
                some o30.2.2)
        else
          some h
      else none
    else
      some h
  else none
set_option maxRecDepth 20000 in
theorem c3_listen (l : Launch) (D : va_G) (ad : Nat → Nat) (cA : Nat → ClassId) (aK aV : Nat → Nat) (B0 : Nat) (hA : ce_Ad ad B0) (F : Nat) (k0 : Nat) (k1 : Nat) (x2 : Int32) (x3 : Int32) (x4 : Int32) (hk0 : ce_isEl k0) (hk1 : ce_isNet k1) (h : Hp) (r : Hp) (e : f3_listen F k0 k1 x2 x3 x4 h = some r) : ce_Ct l D ad cA B0 (ce_St aK aV B0) y3_listen b3_listen 9 none 2 44 0 0 [.ref (ad k0), .ref (ad k1), .int x2, .int x3, .int x4] h none r := by
  refine ce_enter hA (by decide) rfl (Nat.le_of_ble_eq_true rfl) (fun p e0 s m below meth c ls C hH hl => ?_)
  have hl : lv_has ls 9 [(0, .ref (ad k0)), (1, .ref (ad k1)), (2, .int x2), (3, .int x3), (4, .int x4)] := hl
  have hx := C.1
  have hb := C.2.1
  have e : Option.bind _ some = some r := (congrArg (fun z => Option.bind z some) e).trans rfl
  unfold f3_listen at e
  refine lv_aload_n hx hb d3_listen_0 rfl (lv_at hl 0 rfl) ?_
  refine gf_3_9 C hH hk0 d3_listen_1 ?_
  refine lv_iload_n hx hb d3_listen_4 rfl (lv_at hl 2 rfl) ?_
  obtain ⟨hi5, e⟩ := ce_gd e
  refine ce_iald C hH (la_El_1 hk0).1 (la_El_1 hk0).2 (ce_in_vp hi5) d3_listen_5 ?_
  refine lv_iconst (v := (-1 : Int32)) hx hb d3_listen_6 (by decide) ?_
  refine lv_icmp_ne (tgt := 20) hx hb d3_listen_7 (by decide) (fun hc7 => ?_) (fun hc7 => ?_)
  · have e := ce_if0 e hc7
    exact ce_vret C (ce_sok aK aV B0) hH (Option.some.inj e) d3_listen_20
  · have e := ce_if1 e hc7
    refine lv_aload_n hx hb d3_listen_10 rfl (lv_at hl 0 rfl) ?_
    refine gf_3_15 C hH hk0 d3_listen_11 ?_
    refine lv_iload_n hx hb d3_listen_14 rfl (lv_at hl 2 rfl) ?_
    obtain ⟨hi15, e⟩ := ce_gd e
    refine ce_iald C hH (la_El_2 hk0).1 (la_El_2 hk0).2 (ce_in_vp hi15) d3_listen_15 ?_
    refine lv_iconst (v := (-1 : Int32)) hx hb d3_listen_16 (by decide) ?_
    refine lv_icmp_eq (tgt := 21) hx hb d3_listen_17 (by decide) (fun hc17 => ?_) (fun hc17 => ?_)
    · have e := ce_if1 e hc17
      refine lv_iconst (v := (0 : Int32)) hx hb d3_listen_21 (by decide) ?_
      refine lv_istore (lv' := [(5, .int (0 : Int32)), (0, .ref (ad k0)), (1, .ref (ad k1)), (2, .int x2), (3, .int x3), (4, .int x4)]) hx hb d3_listen_22 hl (by decide) rfl (fun ls hl => ?_)
      refine lv_iconst (v := (-1 : Int32)) hx hb d3_listen_24 (by decide) ?_
      refine lv_istore (lv' := [(6, .int (-1 : Int32)), (5, .int (0 : Int32)), (0, .ref (ad k0)), (1, .ref (ad k1)), (2, .int x2), (3, .int x3), (4, .int x4)]) hx hb d3_listen_25 hl (by decide) rfl (fun ls hl => ?_)
      refine lv_iconst (v := (0 : Int32)) hx hb d3_listen_27 (by decide) ?_
      refine lv_istore (lv' := [(7, .int (0 : Int32)), (6, .int (-1 : Int32)), (5, .int (0 : Int32)), (0, .ref (ad k0)), (1, .ref (ad k1)), (2, .int x2), (3, .int x3), (4, .int x4)]) hx hb d3_listen_28 hl (by decide) rfl (fun ls hl => ?_)
      refine l3_listen_30 C F k0 k1 x2 x3 x4 hk0 hk1 r _ (fun y30_5 y30_6 h_30 H locs ls hH hl e => ?_) F (0 : Int32) (-1 : Int32) (0 : Int32) h _ _ _ hH (lv_sub hl [3, 4, 5, 6, 7, 2, 1, 0] rfl) (ce_as e)
      try dsimp only at e
      refine lv_iload hx hb d3_listen_82 (lv_at hl 5 rfl) ?_
      refine lv_if_ne (tgt := 97) hx hb d3_listen_84 (by decide) (fun hc84 => ?_) (fun hc84 => ?_)
      · have e := ce_if0 e hc84
        refine lv_iload hx hb d3_listen_97 (lv_at hl 5 rfl) ?_
        refine lv_iconst (v := (1 : Int32)) hx hb d3_listen_99 (by decide) ?_
        refine lv_icmp_ne (tgt := 140) hx hb d3_listen_100 (by decide) (fun hc100 => ?_) (fun hc100 => ?_)
        · have e := ce_if0 e hc100
          exact ce_vret C (ce_sok aK aV B0) hH (Option.some.inj e) d3_listen_140
        · have e := ce_if1 e hc100
          refine lv_aload_n hx hb d3_listen_103 rfl (lv_at hl 0 rfl) ?_
          refine gf_3_24 C hH hk0 d3_listen_104 ?_
          refine lv_iload_n hx hb d3_listen_107 rfl (lv_at hl 2 rfl) ?_
          refine lv_aload_n hx hb d3_listen_108 rfl (lv_at hl 0 rfl) ?_
          refine gf_3_24 C hH hk0 d3_listen_109 ?_
          refine lv_iload_n hx hb d3_listen_112 rfl (lv_at hl 2 rfl) ?_
          obtain ⟨hi113, e⟩ := ce_gd e
          refine ce_iald C hH (la_El_5 hk0).1 (la_El_5 hk0).2 (ce_in_vp hi113) d3_listen_113 ?_
          refine lv_iload_n hx hb d3_listen_114 rfl (lv_at hl 3 rfl) ?_
          refine lv_iload hx hb d3_listen_115 (lv_at hl 4 rfl) ?_
          refine lv_iadd hx hb d3_listen_117 ?_
          refine va_mmin hx hb (C.2.2.1.trans hl.1.symm) C.2.2.2.1 (C.2.2.2.2.1 _ ml_3_80) (C.2.2.2.2.1 _ mt_Mmin) (C.2.2.2.2.1 _ mI_M) (C.2.2.2.2.1 _ mc_Mmin) (Nat.le_of_ble_eq_true rfl) (Nat.le_of_ble_eq_true rfl) (Nat.le_of_ble_eq_true rfl) (Nat.le_of_ble_eq_true rfl) d3_listen_118 ?_
          obtain ⟨hi121, e⟩ := ce_gd e
          refine ce_iast C hH (la_El_5 hk0).1 (la_El_5 hk0).2 (ce_in_vp hi121) d3_listen_121 (fun H locs hH => ?_)
          obtain ⟨h_121, eh_121, e⟩ := ce_nmE e
          rw [← eh_121] at hH
          refine lv_iload_n hx hb d3_listen_122 rfl (lv_at hl 3 rfl) ?_
          refine lv_aload_n hx hb d3_listen_123 rfl (lv_at hl 0 rfl) ?_
          refine gf_3_24 C hH hk0 d3_listen_124 ?_
          refine lv_iload_n hx hb d3_listen_127 rfl (lv_at hl 2 rfl) ?_
          obtain ⟨hi128, e⟩ := ce_gd e
          refine ce_iald C hH (la_El_5 hk0).1 (la_El_5 hk0).2 (ce_in_vp hi128) d3_listen_128 ?_
          refine lv_icmp_lt (tgt := 140) hx hb d3_listen_129 (by decide) (fun hc129 => ?_) (fun hc129 => ?_)
          · have e := ce_if1 e hc129
            exact ce_vret C (ce_sok aK aV B0) hH (Option.some.inj e) d3_listen_140
          · have e := ce_if0 e hc129
            refine lv_aload_n hx hb d3_listen_132 rfl (lv_at hl 0 rfl) ?_
            refine lv_aload_n hx hb d3_listen_133 rfl (lv_at hl 1 rfl) ?_
            refine lv_iload hx hb d3_listen_134 (lv_at hl 6 rfl) ?_
            refine lv_iload_n hx hb d3_listen_136 rfl (lv_at hl 3 rfl) ?_
            obtain ⟨o137, eo137, e⟩ := ce_bd e
            refine ce_callV (As := [.ref (ad k1), .int y30_6, .int x3]) (rest := []) C (ce_sok aK aV B0) hH (c3_callBy l D ad cA aK aV B0 C.2.2.2.2.2.2.1 F k0 k1 y30_6 x3 hk0 hk1 h_121 o137 eo137) (lk_El hk0).1 (lk_El hk0).2.choose_spec rfl rfl mc3_callBy ml_3_85 mi3_callBy ms3_callBy mI_3 (n := 3) (by decide) rfl ⟨Nat.le_of_ble_eq_true rfl, Nat.le_of_ble_eq_true rfl⟩ ⟨Nat.le_of_ble_eq_true rfl, Nat.le_of_ble_eq_true rfl⟩ hl.1 rfl (Nat.le_of_ble_eq_true rfl) d3_listen_137 (fun H locs hH => ?_)
            refine W.eq (g2 := F0 m 140 ls []) rfl ?_
            exact ce_vret C (ce_sok aK aV B0) hH (Option.some.inj e) d3_listen_140
      · have e := ce_if1 e hc84
        refine lv_aload_n hx hb d3_listen_87 rfl (lv_at hl 0 rfl) ?_
        refine gf_3_15 C hH hk0 d3_listen_88 ?_
        refine lv_iload_n hx hb d3_listen_91 rfl (lv_at hl 2 rfl) ?_
        refine lv_iload_n hx hb d3_listen_92 rfl (lv_at hl 3 rfl) ?_
        obtain ⟨hi93, e⟩ := ce_gd e
        refine ce_iast C hH (la_El_2 hk0).1 (la_El_2 hk0).2 (ce_in_vp hi93) d3_listen_93 (fun H locs hH => ?_)
        obtain ⟨h_93, eh_93, e⟩ := ce_nmE e
        rw [← eh_93] at hH
        refine lv_goto (tgt := 140) hx hb d3_listen_94 (by decide) ?_
        exact ce_vret C (ce_sok aK aV B0) hH (Option.some.inj e) d3_listen_140
    · have e := ce_if0 e hc17
      exact ce_vret C (ce_sok aK aV B0) hH (Option.some.inj e) d3_listen_20
abbrev b3_nextTick : ByteArray := prog_5_method_5_code
def y3_nextTick : MethodName := ⟨cn_3, "nextTick", "(I)I"⟩
theorem d3_nextTick_0 : decode b3_nextTick 0 = .ok (.ldc 36, 2) := by decide +kernel
theorem d3_nextTick_2 : decode b3_nextTick 2 = .ok (.istore_n 2, 1) := by decide +kernel
theorem d3_nextTick_3 : decode b3_nextTick 3 = .ok (.iconst 0, 1) := by decide +kernel
theorem d3_nextTick_4 : decode b3_nextTick 4 = .ok (.istore_n 3, 1) := by decide +kernel
theorem d3_nextTick_5 : decode b3_nextTick 5 = .ok (.iload_n 3, 1) := by decide +kernel
theorem d3_nextTick_6 : decode b3_nextTick 6 = .ok (.bipush 40, 2) := by decide +kernel
theorem d3_nextTick_8 : decode b3_nextTick 8 = .ok (.if_icmp .ge 30, 3) := by decide +kernel
theorem d3_nextTick_11 : decode b3_nextTick 11 = .ok (.aload_n 0, 1) := by decide +kernel
theorem d3_nextTick_12 : decode b3_nextTick 12 = .ok (.getfield 27, 3) := by decide +kernel
theorem d3_nextTick_15 : decode b3_nextTick 15 = .ok (.iload_n 3, 1) := by decide +kernel
theorem d3_nextTick_16 : decode b3_nextTick 16 = .ok (.iaload, 1) := by decide +kernel
theorem d3_nextTick_17 : decode b3_nextTick 17 = .ok (.iload_n 1, 1) := by decide +kernel
theorem d3_nextTick_18 : decode b3_nextTick 18 = .ok (.if_icmp .le 14, 3) := by decide +kernel
theorem d3_nextTick_21 : decode b3_nextTick 21 = .ok (.iload_n 2, 1) := by decide +kernel
theorem d3_nextTick_22 : decode b3_nextTick 22 = .ok (.aload_n 0, 1) := by decide +kernel
theorem d3_nextTick_23 : decode b3_nextTick 23 = .ok (.getfield 27, 3) := by decide +kernel
theorem d3_nextTick_26 : decode b3_nextTick 26 = .ok (.iload_n 3, 1) := by decide +kernel
theorem d3_nextTick_27 : decode b3_nextTick 27 = .ok (.iaload, 1) := by decide +kernel
theorem d3_nextTick_28 : decode b3_nextTick 28 = .ok (.invokestatic 80, 3) := by decide +kernel
theorem d3_nextTick_31 : decode b3_nextTick 31 = .ok (.istore_n 2, 1) := by decide +kernel
theorem d3_nextTick_32 : decode b3_nextTick 32 = .ok (.iinc 3 1, 3) := by decide +kernel
theorem d3_nextTick_35 : decode b3_nextTick 35 = .ok (.goto (-30), 3) := by decide +kernel
theorem d3_nextTick_38 : decode b3_nextTick 38 = .ok (.iconst 0, 1) := by decide +kernel
theorem d3_nextTick_39 : decode b3_nextTick 39 = .ok (.istore_n 3, 1) := by decide +kernel
theorem d3_nextTick_40 : decode b3_nextTick 40 = .ok (.iload_n 3, 1) := by decide +kernel
theorem d3_nextTick_41 : decode b3_nextTick 41 = .ok (.bipush 10, 2) := by decide +kernel
theorem d3_nextTick_43 : decode b3_nextTick 43 = .ok (.if_icmp .ge 30, 3) := by decide +kernel
theorem d3_nextTick_46 : decode b3_nextTick 46 = .ok (.aload_n 0, 1) := by decide +kernel
theorem d3_nextTick_47 : decode b3_nextTick 47 = .ok (.getfield 24, 3) := by decide +kernel
theorem d3_nextTick_50 : decode b3_nextTick 50 = .ok (.iload_n 3, 1) := by decide +kernel
theorem d3_nextTick_51 : decode b3_nextTick 51 = .ok (.iaload, 1) := by decide +kernel
theorem d3_nextTick_52 : decode b3_nextTick 52 = .ok (.iload_n 1, 1) := by decide +kernel
theorem d3_nextTick_53 : decode b3_nextTick 53 = .ok (.if_icmp .le 14, 3) := by decide +kernel
theorem d3_nextTick_56 : decode b3_nextTick 56 = .ok (.iload_n 2, 1) := by decide +kernel
theorem d3_nextTick_57 : decode b3_nextTick 57 = .ok (.aload_n 0, 1) := by decide +kernel
theorem d3_nextTick_58 : decode b3_nextTick 58 = .ok (.getfield 24, 3) := by decide +kernel
theorem d3_nextTick_61 : decode b3_nextTick 61 = .ok (.iload_n 3, 1) := by decide +kernel
theorem d3_nextTick_62 : decode b3_nextTick 62 = .ok (.iaload, 1) := by decide +kernel
theorem d3_nextTick_63 : decode b3_nextTick 63 = .ok (.invokestatic 80, 3) := by decide +kernel
theorem d3_nextTick_66 : decode b3_nextTick 66 = .ok (.istore_n 2, 1) := by decide +kernel
theorem d3_nextTick_67 : decode b3_nextTick 67 = .ok (.iinc 3 1, 3) := by decide +kernel
theorem d3_nextTick_70 : decode b3_nextTick 70 = .ok (.goto (-30), 3) := by decide +kernel
theorem d3_nextTick_73 : decode b3_nextTick 73 = .ok (.iload_n 2, 1) := by decide +kernel
theorem d3_nextTick_74 : decode b3_nextTick 74 = .ok (.ireturn, 1) := by decide +kernel
theorem mk_3_36 : Cond.constant cn_3 36 (1000000) ∈ ce_cm := ce_cm_of (List.mem_of_getElem? (i := 727) (by decide +kernel)) (by decide +kernel)
def f3_nextTick_b5 (F : Nat) (k0 : Nat) (x1 : Int32) (x2 : Int32) (x3 : Int32) (h : Hp) : Option ((Int32 × Int32 × Hp) ⊕ (Int32 × Hp)) :=
  if (40 : Int32) ≤ x3 then
    some (.inr (x2, h))
  else
    if ce_in x3 40 = true then
      if (h (k0 + 6) (x3).toNatClampNeg) ≤ x1 then
        some (.inl (x2, x3 + (1 : Int32), h))
      else
        if ce_in x3 40 = true then
          some (.inl ((if (h (k0 + 6) (x3).toNatClampNeg) < x2 then (h (k0 + 6) (x3).toNatClampNeg) else x2), x3 + (1 : Int32), h))
        else none
    else none
set_option maxRecDepth 20000 in
theorem l3_nextTick_5 (C : ce_Cx p s m args c meth b3_nextTick 4 (some .int) cn_3 D ad cA B0 (ce_St aK aV B0)) (F : Nat) (k0 : Nat) (x1 : Int32) (hk0 : ce_isEl k0) (r : Int32 × Hp) (g : (Int32 × Hp) → Option (Int32 × Hp)) (hx : ∀ (x2 : Int32) (h : Hp) (H : Heap) (locs : List Loc) (ls : Array Slot), ce_H D ad cA B0 [] s h H locs → lv_has ls 4 [(0, .ref (ad k0)), (1, .int x1), (2, .int x2)] → g (x2, h) = some r → W p l e0 { frames := 1, cells := 0, slots := 0, locals := 24 } s m args below meth c H locs 0 0 (MQ below (ce_Q D ad cA B0 (ce_St aK aV B0) (some (.int r.1)) r.2) args s 0 0 (fun q => B0 ≤ q)) (F0 m 38 ls [])) : ∀ (n : Nat) (x2 : Int32) (x3 : Int32) (h : Hp) (H : Heap) (locs : List Loc) (ls : Array Slot), ce_H D ad cA B0 [] s h H locs → lv_has ls 4 [(0, .ref (ad k0)), (1, .int x1), (2, .int x2), (3, .int x3)] → Option.bind (ce_it (fun (st : Int32 × Int32 × Hp) => f3_nextTick_b5 F k0 x1 st.1 st.2.1 st.2.2) n (x2, x3, h)) g = some r → W p l e0 { frames := 1, cells := 0, slots := 0, locals := 24 } s m args below meth c H locs 0 0 (MQ below (ce_Q D ad cA B0 (ce_St aK aV B0) (some (.int r.1)) r.2) args s 0 0 (fun q => B0 ≤ q)) (F0 m 5 ls []) := by
  intro n
  induction n with
  | zero =>
    intro x2 x3 h H locs ls hH hl e
    exact absurd e (fun z => by cases z)
  | succ n ih =>
    intro x2 x3 h H locs ls hH hl e
    have hx9 := C.1
    have hb := C.2.1
    have e : Option.bind (f3_nextTick_b5 F k0 x1 x2 x3 h) _ = some r := ce_it_bd e
    unfold f3_nextTick_b5 at e
    refine lv_iload_n hx9 hb d3_nextTick_5 rfl (lv_at hl 3 rfl) ?_
    refine lv_bipush (v := (40 : Int32)) hx9 hb d3_nextTick_6 (by decide) ?_
    refine lv_icmp_ge (tgt := 38) hx9 hb d3_nextTick_8 (by decide) (fun hc8 => ?_) (fun hc8 => ?_)
    · have e := ce_if1 e hc8
      exact hx x2 h _ _ _ hH (lv_sub hl [0, 1, 2] rfl) e
    · have e := ce_if0 e hc8
      refine lv_aload_n hx9 hb d3_nextTick_11 rfl (lv_at hl 0 rfl) ?_
      refine gf_3_27 C hH hk0 d3_nextTick_12 ?_
      refine lv_iload_n hx9 hb d3_nextTick_15 rfl (lv_at hl 3 rfl) ?_
      obtain ⟨hi16, e⟩ := ce_gd e
      refine ce_iald C hH (la_El_6 hk0).1 (la_El_6 hk0).2 (ce_in_vp hi16) d3_nextTick_16 ?_
      refine lv_iload_n hx9 hb d3_nextTick_17 rfl (lv_at hl 1 rfl) ?_
      refine lv_icmp_le (tgt := 32) hx9 hb d3_nextTick_18 (by decide) (fun hc18 => ?_) (fun hc18 => ?_)
      · have e := ce_if1 e hc18
        refine lv_iinc (v := x3 + (1 : Int32)) (lv' := [(3, .int (x3 + (1 : Int32))), (0, .ref (ad k0)), (1, .int x1), (2, .int x2)]) hx9 hb d3_nextTick_32 hl (k := 3) rfl rfl (by decide) rfl (fun ls hl => ?_)
        refine lv_goto (tgt := 5) hx9 hb d3_nextTick_35 (by decide) ?_
        exact ih x2 (x3 + (1 : Int32)) h _ _ _ hH (lv_sub hl [1, 2, 3, 0] rfl) e
      · have e := ce_if0 e hc18
        refine lv_iload_n hx9 hb d3_nextTick_21 rfl (lv_at hl 2 rfl) ?_
        refine lv_aload_n hx9 hb d3_nextTick_22 rfl (lv_at hl 0 rfl) ?_
        refine gf_3_27 C hH hk0 d3_nextTick_23 ?_
        refine lv_iload_n hx9 hb d3_nextTick_26 rfl (lv_at hl 3 rfl) ?_
        obtain ⟨hi27, e⟩ := ce_gd e
        refine ce_iald C hH (la_El_6 hk0).1 (la_El_6 hk0).2 (ce_in_vp hi27) d3_nextTick_27 ?_
        refine va_mmin hx9 hb (C.2.2.1.trans hl.1.symm) C.2.2.2.1 (C.2.2.2.2.1 _ ml_3_80) (C.2.2.2.2.1 _ mt_Mmin) (C.2.2.2.2.1 _ mI_M) (C.2.2.2.2.1 _ mc_Mmin) (Nat.le_of_ble_eq_true rfl) (Nat.le_of_ble_eq_true rfl) (Nat.le_of_ble_eq_true rfl) (Nat.le_of_ble_eq_true rfl) d3_nextTick_28 ?_
        refine lv_istore_n (lv' := [(2, .int (if (h (k0 + 6) (x3).toNatClampNeg) < x2 then (h (k0 + 6) (x3).toNatClampNeg) else x2)), (0, .ref (ad k0)), (1, .int x1), (3, .int x3)]) hx9 hb d3_nextTick_31 rfl hl (by decide) rfl (fun ls hl => ?_)
        refine lv_iinc (v := x3 + (1 : Int32)) (lv' := [(3, .int (x3 + (1 : Int32))), (2, .int (if (h (k0 + 6) (x3).toNatClampNeg) < x2 then (h (k0 + 6) (x3).toNatClampNeg) else x2)), (0, .ref (ad k0)), (1, .int x1)]) hx9 hb d3_nextTick_32 hl (k := 3) rfl rfl (by decide) rfl (fun ls hl => ?_)
        refine lv_goto (tgt := 5) hx9 hb d3_nextTick_35 (by decide) ?_
        exact ih (if (h (k0 + 6) (x3).toNatClampNeg) < x2 then (h (k0 + 6) (x3).toNatClampNeg) else x2) (x3 + (1 : Int32)) h _ _ _ hH (lv_sub hl [2, 3, 1, 0] rfl) e
def f3_nextTick_b40 (F : Nat) (k0 : Nat) (x1 : Int32) (x2 : Int32) (x3 : Int32) (h : Hp) : Option ((Int32 × Int32 × Hp) ⊕ (Int32 × Hp)) :=
  if (10 : Int32) ≤ x3 then
    some (.inr (x2, h))
  else
    if ce_in x3 10 = true then
      if (h (k0 + 5) (x3).toNatClampNeg) ≤ x1 then
        some (.inl (x2, x3 + (1 : Int32), h))
      else
        if ce_in x3 10 = true then
          some (.inl ((if (h (k0 + 5) (x3).toNatClampNeg) < x2 then (h (k0 + 5) (x3).toNatClampNeg) else x2), x3 + (1 : Int32), h))
        else none
    else none
set_option maxRecDepth 20000 in
theorem l3_nextTick_40 (C : ce_Cx p s m args c meth b3_nextTick 4 (some .int) cn_3 D ad cA B0 (ce_St aK aV B0)) (F : Nat) (k0 : Nat) (x1 : Int32) (hk0 : ce_isEl k0) (r : Int32 × Hp) (g : (Int32 × Hp) → Option (Int32 × Hp)) (hx : ∀ (x2 : Int32) (h : Hp) (H : Heap) (locs : List Loc) (ls : Array Slot), ce_H D ad cA B0 [] s h H locs → lv_has ls 4 [(2, .int x2)] → g (x2, h) = some r → W p l e0 { frames := 1, cells := 0, slots := 0, locals := 24 } s m args below meth c H locs 0 0 (MQ below (ce_Q D ad cA B0 (ce_St aK aV B0) (some (.int r.1)) r.2) args s 0 0 (fun q => B0 ≤ q)) (F0 m 73 ls [])) : ∀ (n : Nat) (x2 : Int32) (x3 : Int32) (h : Hp) (H : Heap) (locs : List Loc) (ls : Array Slot), ce_H D ad cA B0 [] s h H locs → lv_has ls 4 [(0, .ref (ad k0)), (1, .int x1), (2, .int x2), (3, .int x3)] → Option.bind (ce_it (fun (st : Int32 × Int32 × Hp) => f3_nextTick_b40 F k0 x1 st.1 st.2.1 st.2.2) n (x2, x3, h)) g = some r → W p l e0 { frames := 1, cells := 0, slots := 0, locals := 24 } s m args below meth c H locs 0 0 (MQ below (ce_Q D ad cA B0 (ce_St aK aV B0) (some (.int r.1)) r.2) args s 0 0 (fun q => B0 ≤ q)) (F0 m 40 ls []) := by
  intro n
  induction n with
  | zero =>
    intro x2 x3 h H locs ls hH hl e
    exact absurd e (fun z => by cases z)
  | succ n ih =>
    intro x2 x3 h H locs ls hH hl e
    have hx9 := C.1
    have hb := C.2.1
    have e : Option.bind (f3_nextTick_b40 F k0 x1 x2 x3 h) _ = some r := ce_it_bd e
    unfold f3_nextTick_b40 at e
    refine lv_iload_n hx9 hb d3_nextTick_40 rfl (lv_at hl 3 rfl) ?_
    refine lv_bipush (v := (10 : Int32)) hx9 hb d3_nextTick_41 (by decide) ?_
    refine lv_icmp_ge (tgt := 73) hx9 hb d3_nextTick_43 (by decide) (fun hc43 => ?_) (fun hc43 => ?_)
    · have e := ce_if1 e hc43
      exact hx x2 h _ _ _ hH (lv_sub hl [2] rfl) e
    · have e := ce_if0 e hc43
      refine lv_aload_n hx9 hb d3_nextTick_46 rfl (lv_at hl 0 rfl) ?_
      refine gf_3_24 C hH hk0 d3_nextTick_47 ?_
      refine lv_iload_n hx9 hb d3_nextTick_50 rfl (lv_at hl 3 rfl) ?_
      obtain ⟨hi51, e⟩ := ce_gd e
      refine ce_iald C hH (la_El_5 hk0).1 (la_El_5 hk0).2 (ce_in_vp hi51) d3_nextTick_51 ?_
      refine lv_iload_n hx9 hb d3_nextTick_52 rfl (lv_at hl 1 rfl) ?_
      refine lv_icmp_le (tgt := 67) hx9 hb d3_nextTick_53 (by decide) (fun hc53 => ?_) (fun hc53 => ?_)
      · have e := ce_if1 e hc53
        refine lv_iinc (v := x3 + (1 : Int32)) (lv' := [(3, .int (x3 + (1 : Int32))), (0, .ref (ad k0)), (1, .int x1), (2, .int x2)]) hx9 hb d3_nextTick_67 hl (k := 3) rfl rfl (by decide) rfl (fun ls hl => ?_)
        refine lv_goto (tgt := 40) hx9 hb d3_nextTick_70 (by decide) ?_
        exact ih x2 (x3 + (1 : Int32)) h _ _ _ hH (lv_sub hl [1, 2, 3, 0] rfl) e
      · have e := ce_if0 e hc53
        refine lv_iload_n hx9 hb d3_nextTick_56 rfl (lv_at hl 2 rfl) ?_
        refine lv_aload_n hx9 hb d3_nextTick_57 rfl (lv_at hl 0 rfl) ?_
        refine gf_3_24 C hH hk0 d3_nextTick_58 ?_
        refine lv_iload_n hx9 hb d3_nextTick_61 rfl (lv_at hl 3 rfl) ?_
        obtain ⟨hi62, e⟩ := ce_gd e
        refine ce_iald C hH (la_El_5 hk0).1 (la_El_5 hk0).2 (ce_in_vp hi62) d3_nextTick_62 ?_
        refine va_mmin hx9 hb (C.2.2.1.trans hl.1.symm) C.2.2.2.1 (C.2.2.2.2.1 _ ml_3_80) (C.2.2.2.2.1 _ mt_Mmin) (C.2.2.2.2.1 _ mI_M) (C.2.2.2.2.1 _ mc_Mmin) (Nat.le_of_ble_eq_true rfl) (Nat.le_of_ble_eq_true rfl) (Nat.le_of_ble_eq_true rfl) (Nat.le_of_ble_eq_true rfl) d3_nextTick_63 ?_
        refine lv_istore_n (lv' := [(2, .int (if (h (k0 + 5) (x3).toNatClampNeg) < x2 then (h (k0 + 5) (x3).toNatClampNeg) else x2)), (0, .ref (ad k0)), (1, .int x1), (3, .int x3)]) hx9 hb d3_nextTick_66 rfl hl (by decide) rfl (fun ls hl => ?_)
        refine lv_iinc (v := x3 + (1 : Int32)) (lv' := [(3, .int (x3 + (1 : Int32))), (2, .int (if (h (k0 + 5) (x3).toNatClampNeg) < x2 then (h (k0 + 5) (x3).toNatClampNeg) else x2)), (0, .ref (ad k0)), (1, .int x1)]) hx9 hb d3_nextTick_67 hl (k := 3) rfl rfl (by decide) rfl (fun ls hl => ?_)
        refine lv_goto (tgt := 40) hx9 hb d3_nextTick_70 (by decide) ?_
        exact ih (if (h (k0 + 5) (x3).toNatClampNeg) < x2 then (h (k0 + 5) (x3).toNatClampNeg) else x2) (x3 + (1 : Int32)) h _ _ _ hH (lv_sub hl [2, 3, 1, 0] rfl) e
def f3_nextTick (F : Nat) (k0 : Nat) (x1 : Int32) (h : Hp) : Option (Int32 × Hp) :=
  Option.bind (ce_it (fun (st : Int32 × Int32 × Hp) => f3_nextTick_b5 F k0 x1 st.1 st.2.1 st.2.2) F ((1000000 : Int32), (0 : Int32), h)) (fun o5 =>
    Option.bind (ce_it (fun (st : Int32 × Int32 × Hp) => f3_nextTick_b40 F k0 x1 st.1 st.2.1 st.2.2) F (o5.1, (0 : Int32), o5.2)) (fun o40 =>
      some (o40.1, o40.2)))
set_option maxRecDepth 20000 in
theorem c3_nextTick (l : Launch) (D : va_G) (ad : Nat → Nat) (cA : Nat → ClassId) (aK aV : Nat → Nat) (B0 : Nat) (hA : ce_Ad ad B0) (F : Nat) (k0 : Nat) (x1 : Int32) (hk0 : ce_isEl k0) (h : Hp) (r : Int32 × Hp) (e : f3_nextTick F k0 x1 h = some r) : ce_Ct l D ad cA B0 (ce_St aK aV B0) y3_nextTick b3_nextTick 4 (some .int) 1 24 0 0 [.ref (ad k0), .int x1] h (some (.int r.1)) r.2 := by
  refine ce_enter hA (by decide) rfl (Nat.le_of_ble_eq_true rfl) (fun p e0 s m below meth c ls C hH hl => ?_)
  have hl : lv_has ls 4 [(0, .ref (ad k0)), (1, .int x1)] := hl
  have hx := C.1
  have hb := C.2.1
  have e : Option.bind _ some = some r := (congrArg (fun z => Option.bind z some) e).trans rfl
  unfold f3_nextTick at e
  refine lv_ldc (v := (1000000 : Int32)) hx hb C.2.2.2.1 (C.2.2.2.2.1 _ mk_3_36) d3_nextTick_0 ?_
  refine lv_istore_n (lv' := [(2, .int (1000000 : Int32)), (0, .ref (ad k0)), (1, .int x1)]) hx hb d3_nextTick_2 rfl hl (by decide) rfl (fun ls hl => ?_)
  refine lv_iconst (v := (0 : Int32)) hx hb d3_nextTick_3 (by decide) ?_
  refine lv_istore_n (lv' := [(3, .int (0 : Int32)), (2, .int (1000000 : Int32)), (0, .ref (ad k0)), (1, .int x1)]) hx hb d3_nextTick_4 rfl hl (by decide) rfl (fun ls hl => ?_)
  refine l3_nextTick_5 C F k0 x1 hk0 r _ (fun y5_2 h_5 H locs ls hH hl e => ?_) F (1000000 : Int32) (0 : Int32) h _ _ _ hH (lv_sub hl [2, 3, 1, 0] rfl) (ce_as e)
  try dsimp only at e
  refine lv_iconst (v := (0 : Int32)) hx hb d3_nextTick_38 (by decide) ?_
  refine lv_istore_n (lv' := [(3, .int (0 : Int32)), (0, .ref (ad k0)), (1, .int x1), (2, .int y5_2)]) hx hb d3_nextTick_39 rfl hl (by decide) rfl (fun ls hl => ?_)
  refine l3_nextTick_40 C F k0 x1 hk0 r _ (fun y40_2 h_40 H locs ls hH hl e => ?_) F y5_2 (0 : Int32) h_5 _ _ _ hH (lv_sub hl [1, 2, 3, 0] rfl) (ce_as e)
  try dsimp only at e
  refine lv_iload_n hx hb d3_nextTick_73 rfl (lv_at hl 0 rfl) ?_
  exact ce_iretE C (ce_sok aK aV B0) hH e d3_nextTick_74
abbrev b3_isCalledBothWays : ByteArray := prog_5_method_6_code
def y3_isCalledBothWays : MethodName := ⟨cn_3, "isCalledBothWays", "(LCableElection$Net;I)Z"⟩
theorem d3_isCalledBothWays_0 : decode b3_isCalledBothWays 0 = .ok (.aload_n 1, 1) := by decide +kernel
theorem d3_isCalledBothWays_1 : decode b3_isCalledBothWays 1 = .ok (.getfield 92, 3) := by decide +kernel
theorem d3_isCalledBothWays_4 : decode b3_isCalledBothWays 4 = .ok (.iload_n 2, 1) := by decide +kernel
theorem d3_isCalledBothWays_5 : decode b3_isCalledBothWays 5 = .ok (.iaload, 1) := by decide +kernel
theorem d3_isCalledBothWays_6 : decode b3_isCalledBothWays 6 = .ok (.istore_n 3, 1) := by decide +kernel
theorem d3_isCalledBothWays_7 : decode b3_isCalledBothWays 7 = .ok (.aload_n 0, 1) := by decide +kernel
theorem d3_isCalledBothWays_8 : decode b3_isCalledBothWays 8 = .ok (.getfield 21, 3) := by decide +kernel
theorem d3_isCalledBothWays_11 : decode b3_isCalledBothWays 11 = .ok (.iload_n 2, 1) := by decide +kernel
theorem d3_isCalledBothWays_12 : decode b3_isCalledBothWays 12 = .ok (.invokestatic 89, 3) := by decide +kernel
theorem d3_isCalledBothWays_15 : decode b3_isCalledBothWays 15 = .ok (.iaload, 1) := by decide +kernel
theorem d3_isCalledBothWays_16 : decode b3_isCalledBothWays 16 = .ok (.iload_n 2, 1) := by decide +kernel
theorem d3_isCalledBothWays_17 : decode b3_isCalledBothWays 17 = .ok (.if_icmp .ne 20, 3) := by decide +kernel
theorem d3_isCalledBothWays_20 : decode b3_isCalledBothWays 20 = .ok (.aload_n 0, 1) := by decide +kernel
theorem d3_isCalledBothWays_21 : decode b3_isCalledBothWays 21 = .ok (.getfield 21, 3) := by decide +kernel
theorem d3_isCalledBothWays_24 : decode b3_isCalledBothWays 24 = .ok (.iload_n 3, 1) := by decide +kernel
theorem d3_isCalledBothWays_25 : decode b3_isCalledBothWays 25 = .ok (.invokestatic 89, 3) := by decide +kernel
theorem d3_isCalledBothWays_28 : decode b3_isCalledBothWays 28 = .ok (.iaload, 1) := by decide +kernel
theorem d3_isCalledBothWays_29 : decode b3_isCalledBothWays 29 = .ok (.iload_n 3, 1) := by decide +kernel
theorem d3_isCalledBothWays_30 : decode b3_isCalledBothWays 30 = .ok (.if_icmp .ne 7, 3) := by decide +kernel
theorem d3_isCalledBothWays_33 : decode b3_isCalledBothWays 33 = .ok (.iconst 1, 1) := by decide +kernel
theorem d3_isCalledBothWays_34 : decode b3_isCalledBothWays 34 = .ok (.goto 4, 3) := by decide +kernel
theorem d3_isCalledBothWays_37 : decode b3_isCalledBothWays 37 = .ok (.iconst 0, 1) := by decide +kernel
theorem d3_isCalledBothWays_38 : decode b3_isCalledBothWays 38 = .ok (.ireturn, 1) := by decide +kernel
def f3_isCalledBothWays (F : Nat) (k0 : Nat) (k1 : Nat) (x2 : Int32) (h : Hp) : Option (Int32 × Hp) :=
  if ce_in x2 40 = true then
    Option.bind (f11_nodeOf F x2 h) (fun o12 =>
      if ce_in o12.1 10 = true then
        if (o12.2 (k0 + 4) (o12.1).toNatClampNeg) = x2 then
          Option.bind (f11_nodeOf F (h (k1 + 5) (x2).toNatClampNeg) o12.2) (fun o25 =>
            if ce_in o25.1 10 = true then
              if (o25.2 (k0 + 4) (o25.1).toNatClampNeg) = (h (k1 + 5) (x2).toNatClampNeg) then
                some ((1 : Int32), o25.2)
              else
                some ((0 : Int32), o25.2)
            else none)
        else
          some ((0 : Int32), o12.2)
      else none)
  else none
set_option maxRecDepth 20000 in
theorem c3_isCalledBothWays (l : Launch) (D : va_G) (ad : Nat → Nat) (cA : Nat → ClassId) (aK aV : Nat → Nat) (B0 : Nat) (hA : ce_Ad ad B0) (F : Nat) (k0 : Nat) (k1 : Nat) (x2 : Int32) (hk0 : ce_isEl k0) (hk1 : ce_isNet k1) (h : Hp) (r : Int32 × Hp) (e : f3_isCalledBothWays F k0 k1 x2 h = some r) : ce_Ct l D ad cA B0 (ce_St aK aV B0) y3_isCalledBothWays b3_isCalledBothWays 4 (some .boolean) 1 20 0 0 [.ref (ad k0), .ref (ad k1), .int x2] h (some (.int r.1)) r.2 := by
  refine ce_enter hA (by decide) rfl (Nat.le_of_ble_eq_true rfl) (fun p e0 s m below meth c ls C hH hl => ?_)
  have hl : lv_has ls 4 [(0, .ref (ad k0)), (1, .ref (ad k1)), (2, .int x2)] := hl
  have hx := C.1
  have hb := C.2.1
  have e : Option.bind _ some = some r := (congrArg (fun z => Option.bind z some) e).trans rfl
  unfold f3_isCalledBothWays at e
  refine lv_aload_n hx hb d3_isCalledBothWays_0 rfl (lv_at hl 1 rfl) ?_
  refine gf_3_92 C hH hk1 d3_isCalledBothWays_1 ?_
  refine lv_iload_n hx hb d3_isCalledBothWays_4 rfl (lv_at hl 2 rfl) ?_
  obtain ⟨hi5, e⟩ := ce_gd e
  refine ce_iald C hH (la_Net_5 hk1).1 (la_Net_5 hk1).2 (ce_in_vp hi5) d3_isCalledBothWays_5 ?_
  refine lv_istore_n (lv' := [(3, .int (h (k1 + 5) (x2).toNatClampNeg)), (0, .ref (ad k0)), (1, .ref (ad k1)), (2, .int x2)]) hx hb d3_isCalledBothWays_6 rfl hl (by decide) rfl (fun ls hl => ?_)
  refine lv_aload_n hx hb d3_isCalledBothWays_7 rfl (lv_at hl 1 rfl) ?_
  refine gf_3_21 C hH hk0 d3_isCalledBothWays_8 ?_
  refine lv_iload_n hx hb d3_isCalledBothWays_11 rfl (lv_at hl 3 rfl) ?_
  obtain ⟨o12, eo12, e⟩ := ce_bd e
  refine ce_callN (As := [.int x2]) (rest := [.ref (ad (k0 + 4))]) C (ce_sok aK aV B0) hH (c11_nodeOf l D ad cA aK aV B0 C.2.2.2.2.2.2.1 F x2  h o12 eo12) mc11_nodeOf (ce_nwW C.2.2.2.2.2.2.2.2.2.2 16 rfl) mt11_nodeOf mI_11 (n := 1) (by decide) rfl ⟨Nat.le_of_ble_eq_true rfl, Nat.le_of_ble_eq_true rfl⟩ ⟨Nat.le_of_ble_eq_true rfl, Nat.le_of_ble_eq_true rfl⟩ hl.1 rfl (Nat.le_of_ble_eq_true rfl) d3_isCalledBothWays_12 (fun H locs hH => ?_)
  refine W.eq (g2 := F0 m 15 ls [.int o12.1, .ref (ad (k0 + 4))]) rfl ?_
  obtain ⟨hi15, e⟩ := ce_gd e
  refine ce_iald C hH (la_El_4 hk0).1 (la_El_4 hk0).2 (ce_in_vp hi15) d3_isCalledBothWays_15 ?_
  refine lv_iload_n hx hb d3_isCalledBothWays_16 rfl (lv_at hl 3 rfl) ?_
  refine lv_icmp_ne (tgt := 37) hx hb d3_isCalledBothWays_17 (by decide) (fun hc17 => ?_) (fun hc17 => ?_)
  · have e := ce_if0 e hc17
    refine lv_iconst (v := (0 : Int32)) hx hb d3_isCalledBothWays_37 (by decide) ?_
    exact ce_zretE C (ce_sok aK aV B0) hH (Or.inl rfl) e d3_isCalledBothWays_38
  · have e := ce_if1 e hc17
    refine lv_aload_n hx hb d3_isCalledBothWays_20 rfl (lv_at hl 1 rfl) ?_
    refine gf_3_21 C hH hk0 d3_isCalledBothWays_21 ?_
    refine lv_iload_n hx hb d3_isCalledBothWays_24 rfl (lv_at hl 0 rfl) ?_
    obtain ⟨o25, eo25, e⟩ := ce_bd e
    refine ce_callN (As := [.int (h (k1 + 5) (x2).toNatClampNeg)]) (rest := [.ref (ad (k0 + 4))]) C (ce_sok aK aV B0) hH (c11_nodeOf l D ad cA aK aV B0 C.2.2.2.2.2.2.1 F (h (k1 + 5) (x2).toNatClampNeg)  o12.2 o25 eo25) mc11_nodeOf (ce_nwW C.2.2.2.2.2.2.2.2.2.2 16 rfl) mt11_nodeOf mI_11 (n := 1) (by decide) rfl ⟨Nat.le_of_ble_eq_true rfl, Nat.le_of_ble_eq_true rfl⟩ ⟨Nat.le_of_ble_eq_true rfl, Nat.le_of_ble_eq_true rfl⟩ hl.1 rfl (Nat.le_of_ble_eq_true rfl) d3_isCalledBothWays_25 (fun H locs hH => ?_)
    refine W.eq (g2 := F0 m 28 ls [.int o25.1, .ref (ad (k0 + 4))]) rfl ?_
    obtain ⟨hi28, e⟩ := ce_gd e
    refine ce_iald C hH (la_El_4 hk0).1 (la_El_4 hk0).2 (ce_in_vp hi28) d3_isCalledBothWays_28 ?_
    refine lv_iload_n hx hb d3_isCalledBothWays_29 rfl (lv_at hl 0 rfl) ?_
    refine lv_icmp_ne (tgt := 37) hx hb d3_isCalledBothWays_30 (by decide) (fun hc30 => ?_) (fun hc30 => ?_)
    · have e := ce_if0 e hc30
      refine lv_iconst (v := (0 : Int32)) hx hb d3_isCalledBothWays_37 (by decide) ?_
      exact ce_zretE C (ce_sok aK aV B0) hH (Or.inl rfl) e d3_isCalledBothWays_38
    · have e := ce_if1 e hc30
      refine lv_iconst (v := (1 : Int32)) hx hb d3_isCalledBothWays_33 (by decide) ?_
      refine lv_goto (tgt := 38) hx hb d3_isCalledBothWays_34 (by decide) ?_
      exact ce_zretE C (ce_sok aK aV B0) hH (Or.inr rfl) e d3_isCalledBothWays_38
end C3
