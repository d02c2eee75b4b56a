-- C5: functions and contracts, written by wip/whole/gen (mgen.py, walk.py, walk2.py) out of the bytecode
section C5
variable {p : Program} {l : Launch} {e0 : Env} {R : Room} {s : State} {m : MethodId} {args : Array Value} {below : List Frame} {meth : Method} {c : Code} {H : Heap} {locs : List Loc} {cells slots : Nat} {Q : State → Prop}
variable {cc : ByteArray} {pc nL : Nat} {ret : Option FieldType} {ls : Array Slot} {rest : List Value} {D : va_G} {ad : Nat → Nat} {cA : Nat → ClassId} {B0 : Nat} {X : va_W} {h : Hp} {aK aV : Nat → Nat}
abbrev b4_handOn : ByteArray := prog_6_method_2_code
def y4_handOn : MethodName := ⟨cn_4, "handOn", "(LCableElection$Net;LCableElection$Election;LCableElection$Buses;)V"⟩
theorem d4_handOn_0 : decode b4_handOn 0 = .ok (.aload_n 0, 1) := by decide +kernel
theorem d4_handOn_1 : decode b4_handOn 1 = .ok (.getfield 9, 3) := by decide +kernel
theorem d4_handOn_4 : decode b4_handOn 4 = .ok (.iconst (-1), 1) := by decide +kernel
theorem d4_handOn_5 : decode b4_handOn 5 = .ok (.invokestatic 18, 3) := by decide +kernel
theorem d4_handOn_8 : decode b4_handOn 8 = .ok (.aload_n 0, 1) := by decide +kernel
theorem d4_handOn_9 : decode b4_handOn 9 = .ok (.getfield 15, 3) := by decide +kernel
theorem d4_handOn_12 : decode b4_handOn 12 = .ok (.iconst (-1), 1) := by decide +kernel
theorem d4_handOn_13 : decode b4_handOn 13 = .ok (.invokestatic 18, 3) := by decide +kernel
theorem d4_handOn_16 : decode b4_handOn 16 = .ok (.iconst 0, 1) := by decide +kernel
theorem d4_handOn_17 : decode b4_handOn 17 = .ok (.istore 4, 2) := by decide +kernel
theorem d4_handOn_19 : decode b4_handOn 19 = .ok (.iload 4, 2) := by decide +kernel
theorem d4_handOn_21 : decode b4_handOn 21 = .ok (.aload_n 1, 1) := by decide +kernel
theorem d4_handOn_22 : decode b4_handOn 22 = .ok (.getfield 24, 3) := by decide +kernel
theorem d4_handOn_25 : decode b4_handOn 25 = .ok (.if_icmp .ge 37, 3) := by decide +kernel
theorem d4_handOn_28 : decode b4_handOn 28 = .ok (.aload_n 2, 1) := by decide +kernel
theorem d4_handOn_29 : decode b4_handOn 29 = .ok (.getfield 30, 3) := by decide +kernel
theorem d4_handOn_32 : decode b4_handOn 32 = .ok (.iload 4, 2) := by decide +kernel
theorem d4_handOn_34 : decode b4_handOn 34 = .ok (.iaload, 1) := by decide +kernel
theorem d4_handOn_35 : decode b4_handOn 35 = .ok (.iconst (-1), 1) := by decide +kernel
theorem d4_handOn_36 : decode b4_handOn 36 = .ok (.if_icmp .eq 20, 3) := by decide +kernel
theorem d4_handOn_39 : decode b4_handOn 39 = .ok (.aload_n 0, 1) := by decide +kernel
theorem d4_handOn_40 : decode b4_handOn 40 = .ok (.aload_n 1, 1) := by decide +kernel
theorem d4_handOn_41 : decode b4_handOn 41 = .ok (.aload_n 2, 1) := by decide +kernel
theorem d4_handOn_42 : decode b4_handOn 42 = .ok (.iload 4, 2) := by decide +kernel
theorem d4_handOn_44 : decode b4_handOn 44 = .ok (.aload_n 3, 1) := by decide +kernel
theorem d4_handOn_45 : decode b4_handOn 45 = .ok (.iload 4, 2) := by decide +kernel
theorem d4_handOn_47 : decode b4_handOn 47 = .ok (.invokevirtual 35, 3) := by decide +kernel
theorem d4_handOn_50 : decode b4_handOn 50 = .ok (.bipush 10, 2) := by decide +kernel
theorem d4_handOn_52 : decode b4_handOn 52 = .ok (.imul, 1) := by decide +kernel
theorem d4_handOn_53 : decode b4_handOn 53 = .ok (.invokevirtual 41, 3) := by decide +kernel
theorem d4_handOn_56 : decode b4_handOn 56 = .ok (.iinc 4 1, 3) := by decide +kernel
theorem d4_handOn_59 : decode b4_handOn 59 = .ok (.goto (-40), 3) := by decide +kernel
theorem d4_handOn_62 : decode b4_handOn 62 = .ok (.return_, 1) := by decide +kernel
theorem fl_4_24 : Cond.fieldLink cn_4 24 (ft_5 3).1 (ft_5 3).2.1 (ft_5 3).2.2.1 ∈ ce_cm := ce_cm_of (List.mem_of_getElem? (i := 206) (by decide +kernel)) (by decide +kernel)
theorem gf_4_24 (C : ce_Cx p s m args c meth cc nL ret cn_4 D ad cA B0 (ce_St aK aV B0)) (hH : ce_H D ad cA B0 X s h H locs) {k : Nat} (hk : ce_isNet k) (hdg : decode cc pc = .ok (.getfield 24, 3)) (kk : W p l e0 R s m args below meth c H locs cells slots Q (F0 m (pc + 3) ls (.int (h k 3) :: rest))) : W p l e0 R s m args below meth c H locs cells slots Q (F0 m pc ls (.ref (ad k) :: rest)) := by
  rcases hk with rfl | rfl
  · exact ce_get C hH (k := 7) (ci := 5) (j := 3) (N := 11) (sj := none) (by decide) rfl rfl fw_5 (by decide) fl_4_24 rfl hdg kk
  · exact ce_get C hH (k := 14) (ci := 5) (j := 3) (N := 11) (sj := none) (by decide) rfl rfl fw_5 (by decide) fl_4_24 rfl hdg kk
theorem pf_4_24 (C : ce_Cx p s m args c meth cc nL ret cn_4 D ad cA B0 (ce_St aK aV B0)) (hH : ce_H D ad cA B0 X s h H locs) {k : Nat} (hk : ce_isNet k) {x : Int32} (hdg : decode cc pc = .ok (.putfield 24, 3)) (kk : ∀ (H1 : Heap) (locs1 : List Loc), ce_H D ad cA B0 X s (hp_up h k 3 x) H1 locs1 → W p l e0 R s m args below meth c H1 locs1 cells slots Q (F0 m (pc + 3) ls rest)) : W p l e0 R s m args below meth c H locs cells slots Q (F0 m pc ls (.int x :: .ref (ad k) :: rest)) := by
  rcases hk with rfl | rfl
  · exact ce_put C hH (k := 7) (ci := 5) (j := 3) (N := 11) (fy := fy_5) (sj := none) x (by decide) rfl rfl fw_5 fo_5 fn_5 (by decide) fl_4_24 rfl rfl (v := .int x) (by simp [ce_slot, upd]) rfl rfl hdg kk
  · exact ce_put C hH (k := 14) (ci := 5) (j := 3) (N := 11) (fy := fy_5) (sj := none) x (by decide) rfl rfl fw_5 fo_5 fn_5 (by decide) fl_4_24 rfl rfl (v := .int x) (by simp [ce_slot, upd]) rfl rfl hdg kk
theorem fl_4_30 : Cond.fieldLink cn_4 30 (ft_3 1).1 (ft_3 1).2.1 (ft_3 1).2.2.1 ∈ ce_cm := ce_cm_of (List.mem_of_getElem? (i := 382) (by decide +kernel)) (by decide +kernel)
theorem gf_4_30 (C : ce_Cx p s m args c meth cc nL ret cn_4 D ad cA B0 (ce_St aK aV B0)) (hH : ce_H D ad cA B0 X s h H locs) {k : Nat} (hk : ce_isEl k) (hdg : decode cc pc = .ok (.getfield 30, 3)) (kk : W p l e0 R s m args below meth c H locs cells slots Q (F0 m (pc + 3) ls (.ref (ad (k + 2)) :: rest))) : W p l e0 R s m args below meth c H locs cells slots Q (F0 m pc ls (.ref (ad k) :: rest)) := by
  rcases hk with rfl | rfl
  · exact ce_get C hH (k := 48) (ci := 3) (j := 1) (N := 6) (sj := some (some 50)) (by decide) rfl rfl fw_3 (by decide) fl_4_30 rfl hdg kk
  · exact ce_get C hH (k := 55) (ci := 3) (j := 1) (N := 6) (sj := some (some 57)) (by decide) rfl rfl fw_3 (by decide) fl_4_30 rfl hdg kk
theorem mc4_nameFrom : Cond.code y4_nameFrom b4_nameFrom 9 none ∈ ce_cm := ce_cm_of (List.mem_of_getElem? (i := 777) (by decide +kernel)) (by decide +kernel)
theorem ml_4_41 : Cond.methodLink cn_4 41 y4_nameFrom ∈ ce_cm := ce_cm_of (List.mem_of_getElem? (i := 774) (by decide +kernel)) (by decide +kernel)
theorem mi4_nameFrom : Cond.instanceMethod y4_nameFrom ∈ ce_cm := ce_cm_of (List.mem_of_getElem? (i := 776) (by decide +kernel)) (by decide +kernel)
theorem ms4_nameFrom : Cond.selects cn_4 y4_nameFrom y4_nameFrom ∈ ce_cm := ce_cm_of (List.mem_of_getElem? (i := 18) (by decide +kernel)) (by decide +kernel)
theorem ml_4_35 : Cond.methodLink cn_4 35 y2_leastOf ∈ ce_cm := ce_cm_of (List.mem_of_getElem? (i := 770) (by decide +kernel)) (by decide +kernel)
theorem ml_4_18 : Cond.methodLink cn_4 18 y7_fill_53178 ∈ ce_cm := ce_cm_of (List.mem_of_getElem? (i := 769) (by decide +kernel)) (by decide +kernel)
def f4_handOn_b19 (F : Nat) (k1 : Nat) (k2 : Nat) (x4 : Int32) (h : Hp) : Option ((Int32 × Hp) ⊕ (Hp)) :=
  if (h k1 3) ≤ x4 then
    some (.inr h)
  else
    if ce_in x4 10 = true then
      if (h (k2 + 2) (x4).toNatClampNeg) = (-1 : Int32) then
        some (.inl (x4 + (1 : Int32), h))
      else
        Option.bind (f2_leastOf F x4 h) (fun o47 =>
          Option.bind (f4_nameFrom F k1 k2 x4 (o47.1 * (10 : Int32)) o47.2) (fun o53 =>
            some (.inl (x4 + (1 : Int32), o53))))
    else none
set_option maxRecDepth 20000 in
theorem l4_handOn_19 (C : ce_Cx p s m args c meth b4_handOn 5 none cn_4 D ad cA B0 (ce_St aK aV B0)) (F : Nat) (k1 : Nat) (k2 : Nat) (hk1 : ce_isNet k1) (hk2 : ce_isEl k2) (r : Hp) (g : (Hp) → Option (Hp)) (hx : ∀  (h : Hp) (H : Heap) (locs : List Loc) (ls : Array Slot), ce_H D ad cA B0 [] s h H locs → lv_has ls 5 [] → g h = some r → W p l e0 { frames := 4, cells := 0, slots := 0, locals := 97 } s m args below meth c H locs 0 0 (MQ below (ce_Q D ad cA B0 (ce_St aK aV B0) none r) args s 0 0 (fun q => B0 ≤ q)) (F0 m 62 ls [])) : ∀ (n : Nat) (x4 : Int32) (h : Hp) (H : Heap) (locs : List Loc) (ls : Array Slot), ce_H D ad cA B0 [] s h H locs → lv_has ls 5 [(0, .ref (ad 62)), (1, .ref (ad k1)), (2, .ref (ad k2)), (3, .ref (ad 44)), (4, .int x4)] → Option.bind (ce_it (fun (st : Int32 × Hp) => f4_handOn_b19 F k1 k2 st.1 st.2) n (x4, h)) g = some r → W p l e0 { frames := 4, cells := 0, slots := 0, locals := 97 } s m args below meth c H locs 0 0 (MQ below (ce_Q D ad cA B0 (ce_St aK aV B0) none r) args s 0 0 (fun q => B0 ≤ q)) (F0 m 19 ls []) := by
  intro n
  induction n with
  | zero =>
    intro x4 h H locs ls hH hl e
    exact absurd e (fun z => by cases z)
  | succ n ih =>
    intro x4 h H locs ls hH hl e
    have hx9 := C.1
    have hb := C.2.1
    have e : Option.bind (f4_handOn_b19 F k1 k2 x4 h) _ = some r := ce_it_bd e
    unfold f4_handOn_b19 at e
    refine lv_iload hx9 hb d4_handOn_19 (lv_at hl 4 rfl) ?_
    refine lv_aload_n hx9 hb d4_handOn_21 rfl (lv_at hl 1 rfl) ?_
    refine gf_4_24 C hH hk1 d4_handOn_22 ?_
    refine lv_icmp_ge (tgt := 62) hx9 hb d4_handOn_25 (by decide) (fun hc25 => ?_) (fun hc25 => ?_)
    · have e := ce_if1 e hc25
      exact hx  h _ _ _ hH (lv_sub hl [] rfl) e
    · have e := ce_if0 e hc25
      refine lv_aload_n hx9 hb d4_handOn_28 rfl (lv_at hl 2 rfl) ?_
      refine gf_4_30 C hH hk2 d4_handOn_29 ?_
      refine lv_iload hx9 hb d4_handOn_32 (lv_at hl 4 rfl) ?_
      obtain ⟨hi34, e⟩ := ce_gd e
      refine ce_iald C hH (la_El_2 hk2).1 (la_El_2 hk2).2 (ce_in_vp hi34) d4_handOn_34 ?_
      refine lv_iconst (v := (-1 : Int32)) hx9 hb d4_handOn_35 (by decide) ?_
      refine lv_icmp_eq (tgt := 56) hx9 hb d4_handOn_36 (by decide) (fun hc36 => ?_) (fun hc36 => ?_)
      · have e := ce_if1 e hc36
        refine lv_iinc (v := x4 + (1 : Int32)) (lv' := [(4, .int (x4 + (1 : Int32))), (0, .ref (ad 62)), (1, .ref (ad k1)), (2, .ref (ad k2)), (3, .ref (ad 44))]) hx9 hb d4_handOn_56 hl (k := 4) rfl rfl (by decide) rfl (fun ls hl => ?_)
        refine lv_goto (tgt := 19) hx9 hb d4_handOn_59 (by decide) ?_
        exact ih (x4 + (1 : Int32)) h _ _ _ hH (lv_sub hl [1, 2, 3, 4, 0] rfl) e
      · have e := ce_if0 e hc36
        refine lv_aload_n hx9 hb d4_handOn_39 rfl (lv_at hl 0 rfl) ?_
        refine lv_aload_n hx9 hb d4_handOn_40 rfl (lv_at hl 1 rfl) ?_
        refine lv_aload_n hx9 hb d4_handOn_41 rfl (lv_at hl 2 rfl) ?_
        refine lv_iload hx9 hb d4_handOn_42 (lv_at hl 4 rfl) ?_
        refine lv_aload_n hx9 hb d4_handOn_44 rfl (lv_at hl 3 rfl) ?_
        refine lv_iload hx9 hb d4_handOn_45 (lv_at hl 4 rfl) ?_
        obtain ⟨o47, eo47, e⟩ := ce_bd e
        refine ce_callV (As := [.int x4]) (rest := [.int x4, .ref (ad k2), .ref (ad k1), .ref (ad 62)]) C (ce_sok aK aV B0) hH (c2_leastOf l D ad cA aK aV B0 C.2.2.2.2.2.2.1 F x4  h o47 eo47) lo_44.1 lo_44.2.choose_spec rfl rfl mc2_leastOf ml_4_35 mi2_leastOf ms2_leastOf mI_2 (n := 1) (by decide) rfl ⟨Nat.le_of_ble_eq_true rfl, Nat.le_of_ble_eq_true rfl⟩ ⟨Nat.le_of_ble_eq_true rfl, Nat.le_of_ble_eq_true rfl⟩ hl.1 rfl (Nat.le_of_ble_eq_true rfl) d4_handOn_47 (fun H locs hH => ?_)
        refine W.eq (g2 := F0 m 50 ls [.int o47.1, .int x4, .ref (ad k2), .ref (ad k1), .ref (ad 62)]) rfl ?_
        refine lv_bipush (v := (10 : Int32)) hx9 hb d4_handOn_50 (by decide) ?_
        refine lv_imul hx9 hb d4_handOn_52 ?_
        obtain ⟨o53, eo53, e⟩ := ce_bd e
        refine ce_callV (As := [.ref (ad k1), .ref (ad k2), .int x4, .int (o47.1 * (10 : Int32))]) (rest := []) C (ce_sok aK aV B0) hH (c4_nameFrom l D ad cA aK aV B0 C.2.2.2.2.2.2.1 F k1 k2 x4 (o47.1 * (10 : Int32)) hk1 hk2 o47.2 o53 eo53) lo_62.1 lo_62.2.choose_spec rfl rfl mc4_nameFrom ml_4_41 mi4_nameFrom ms4_nameFrom mI_4 (n := 4) (by decide) rfl ⟨Nat.le_of_ble_eq_true rfl, Nat.le_of_ble_eq_true rfl⟩ ⟨Nat.le_of_ble_eq_true rfl, Nat.le_of_ble_eq_true rfl⟩ hl.1 rfl (Nat.le_of_ble_eq_true rfl) d4_handOn_53 (fun H locs hH => ?_)
        refine W.eq (g2 := F0 m 56 ls []) rfl ?_
        refine lv_iinc (v := x4 + (1 : Int32)) (lv' := [(4, .int (x4 + (1 : Int32))), (0, .ref (ad 62)), (1, .ref (ad k1)), (2, .ref (ad k2)), (3, .ref (ad 44))]) hx9 hb d4_handOn_56 hl (k := 4) rfl rfl (by decide) rfl (fun ls hl => ?_)
        refine lv_goto (tgt := 19) hx9 hb d4_handOn_59 (by decide) ?_
        exact ih (x4 + (1 : Int32)) o53 _ _ _ hH (lv_sub hl [1, 2, 3, 4, 0] rfl) e
def f4_handOn (F : Nat) (k1 : Nat) (k2 : Nat) (h : Hp) : Option (Hp) :=
  Option.bind (f7_fill_53178 F 63 10 (-1 : Int32) h) (fun o5 =>
    Option.bind (f7_fill_53178 F 64 100 (-1 : Int32) o5) (fun o13 =>
      Option.bind (ce_it (fun (st : Int32 × Hp) => f4_handOn_b19 F k1 k2 st.1 st.2) F ((0 : Int32), o13)) (fun o19 =>
        some o19)))
set_option maxRecDepth 20000 in
theorem c4_handOn (l : Launch) (D : va_G) (ad : Nat → Nat) (cA : Nat → ClassId) (aK aV : Nat → Nat) (B0 : Nat) (hA : ce_Ad ad B0) (F : Nat) (k1 : Nat) (k2 : Nat) (hk1 : ce_isNet k1) (hk2 : ce_isEl k2) (h : Hp) (r : Hp) (e : f4_handOn F k1 k2 h = some r) : ce_Ct l D ad cA B0 (ce_St aK aV B0) y4_handOn b4_handOn 5 none 4 97 0 0 [.ref (ad 62), .ref (ad k1), .ref (ad k2), .ref (ad 44)] h none r := by
  refine ce_enter hA (by decide) rfl (Nat.le_of_ble_eq_true rfl) (fun p e0 s m below meth c ls C hH hl => ?_)
  have hl : lv_has ls 5 [(0, .ref (ad 62)), (1, .ref (ad k1)), (2, .ref (ad k2)), (3, .ref (ad 44))] := hl
  have hx := C.1
  have hb := C.2.1
  have e : Option.bind _ some = some r := (congrArg (fun z => Option.bind z some) e).trans rfl
  unfold f4_handOn at e
  refine lv_aload_n hx hb d4_handOn_0 rfl (lv_at hl 0 rfl) ?_
  refine gf_4_9 C hH d4_handOn_1 ?_
  refine lv_iconst (v := (-1 : Int32)) hx hb d4_handOn_4 (by decide) ?_
  obtain ⟨o5, eo5, e⟩ := ce_bd e
  refine ce_callS (As := [.ref (ad 63), .int (-1 : Int32)]) (rest := []) C (ce_sok aK aV B0) hH (c7_fill_53178 l D ad cA aK aV B0 C.2.2.2.2.2.2.1 F 63 10 (-1 : Int32) ⟨lc_63.1, lc_63.2⟩ h o5 eo5) mc7_fill_53178 ml_4_18 mt7_fill_53178 mI_A (n := 2) (by decide) rfl ⟨Nat.le_of_ble_eq_true rfl, Nat.le_of_ble_eq_true rfl⟩ ⟨Nat.le_of_ble_eq_true rfl, Nat.le_of_ble_eq_true rfl⟩ hl.1 rfl (Nat.le_of_ble_eq_true rfl) d4_handOn_5 (fun H locs hH => ?_)
  refine W.eq (g2 := F0 m 8 ls []) rfl ?_
  refine lv_aload_n hx hb d4_handOn_8 rfl (lv_at hl 0 rfl) ?_
  refine gf_4_15 C hH d4_handOn_9 ?_
  refine lv_iconst (v := (-1 : Int32)) hx hb d4_handOn_12 (by decide) ?_
  obtain ⟨o13, eo13, e⟩ := ce_bd e
  refine ce_callS (As := [.ref (ad 64), .int (-1 : Int32)]) (rest := []) C (ce_sok aK aV B0) hH (c7_fill_53178 l D ad cA aK aV B0 C.2.2.2.2.2.2.1 F 64 100 (-1 : Int32) ⟨lc_64.1, lc_64.2⟩ o5 o13 eo13) mc7_fill_53178 ml_4_18 mt7_fill_53178 mI_A (n := 2) (by decide) rfl ⟨Nat.le_of_ble_eq_true rfl, Nat.le_of_ble_eq_true rfl⟩ ⟨Nat.le_of_ble_eq_true rfl, Nat.le_of_ble_eq_true rfl⟩ hl.1 rfl (Nat.le_of_ble_eq_true rfl) d4_handOn_13 (fun H locs hH => ?_)
  refine W.eq (g2 := F0 m 16 ls []) rfl ?_
  refine lv_iconst (v := (0 : Int32)) hx hb d4_handOn_16 (by decide) ?_
  refine lv_istore (lv' := [(4, .int (0 : Int32)), (0, .ref (ad 62)), (1, .ref (ad k1)), (2, .ref (ad k2)), (3, .ref (ad 44))]) hx hb d4_handOn_17 hl (by decide) rfl (fun ls hl => ?_)
  refine l4_handOn_19 C F k1 k2 hk1 hk2 r _ (fun  h_19 H locs ls hH hl e => ?_) F (0 : Int32) o13 _ _ _ hH (lv_sub hl [1, 2, 3, 4, 0] rfl) (ce_as e)
  try dsimp only at e
  exact ce_vret C (ce_sok aK aV B0) hH (Option.some.inj e) d4_handOn_62
abbrev b4_nodeWith : ByteArray := prog_6_method_5_code
def y4_nodeWith : MethodName := ⟨cn_4, "nodeWith", "(LCableElection$Buses;II)I"⟩
theorem d4_nodeWith_0 : decode b4_nodeWith 0 = .ok (.iload_n 3, 1) := by decide +kernel
theorem d4_nodeWith_1 : decode b4_nodeWith 1 = .ok (.ifCond .lt 9, 3) := by decide +kernel
theorem d4_nodeWith_4 : decode b4_nodeWith 4 = .ok (.iload_n 3, 1) := by decide +kernel
theorem d4_nodeWith_5 : decode b4_nodeWith 5 = .ok (.bipush 10, 2) := by decide +kernel
theorem d4_nodeWith_7 : decode b4_nodeWith 7 = .ok (.if_icmp .lt 5, 3) := by decide +kernel
theorem d4_nodeWith_10 : decode b4_nodeWith 10 = .ok (.iconst (-1), 1) := by decide +kernel
theorem d4_nodeWith_11 : decode b4_nodeWith 11 = .ok (.ireturn, 1) := by decide +kernel
theorem d4_nodeWith_12 : decode b4_nodeWith 12 = .ok (.aload_n 0, 1) := by decide +kernel
theorem d4_nodeWith_13 : decode b4_nodeWith 13 = .ok (.getfield 15, 3) := by decide +kernel
theorem d4_nodeWith_16 : decode b4_nodeWith 16 = .ok (.aload_n 1, 1) := by decide +kernel
theorem d4_nodeWith_17 : decode b4_nodeWith 17 = .ok (.iload_n 2, 1) := by decide +kernel
theorem d4_nodeWith_18 : decode b4_nodeWith 18 = .ok (.invokevirtual 35, 3) := by decide +kernel
theorem d4_nodeWith_21 : decode b4_nodeWith 21 = .ok (.bipush 10, 2) := by decide +kernel
theorem d4_nodeWith_23 : decode b4_nodeWith 23 = .ok (.imul, 1) := by decide +kernel
theorem d4_nodeWith_24 : decode b4_nodeWith 24 = .ok (.iload_n 3, 1) := by decide +kernel
theorem d4_nodeWith_25 : decode b4_nodeWith 25 = .ok (.iadd, 1) := by decide +kernel
theorem d4_nodeWith_26 : decode b4_nodeWith 26 = .ok (.iaload, 1) := by decide +kernel
theorem d4_nodeWith_27 : decode b4_nodeWith 27 = .ok (.ireturn, 1) := by decide +kernel
def f4_nodeWith (F : Nat) (x2 : Int32) (x3 : Int32) (h : Hp) : Option (Int32 × Hp) :=
  if x3 < 0 then
    some ((-1 : Int32), h)
  else
    if x3 < (10 : Int32) then
      Option.bind (f2_leastOf F x2 h) (fun o18 =>
        if ce_in ((o18.1 * (10 : Int32)) + x3) 100 = true then
          some (o18.2 64 (((o18.1 * (10 : Int32)) + x3)).toNatClampNeg, o18.2)
        else none)
    else
      some ((-1 : Int32), h)
set_option maxRecDepth 20000 in
theorem c4_nodeWith (l : Launch) (D : va_G) (ad : Nat → Nat) (cA : Nat → ClassId) (aK aV : Nat → Nat) (B0 : Nat) (hA : ce_Ad ad B0) (F : Nat) (x2 : Int32) (x3 : Int32)  (h : Hp) (r : Int32 × Hp) (e : f4_nodeWith F x2 x3 h = some r) : ce_Ct l D ad cA B0 (ce_St aK aV B0) y4_nodeWith b4_nodeWith 4 (some .int) 1 21 0 0 [.ref (ad 62), .ref (ad 44), .int x2, .int x3] h (some (.int r.1)) r.2 := by
  refine ce_enter hA (by decide) rfl (Nat.le_of_ble_eq_true rfl) (fun p e0 s m below meth c ls C hH hl => ?_)
  have hl : lv_has ls 4 [(0, .ref (ad 62)), (1, .ref (ad 44)), (2, .int x2), (3, .int x3)] := hl
  have hx := C.1
  have hb := C.2.1
  have e : Option.bind _ some = some r := (congrArg (fun z => Option.bind z some) e).trans rfl
  unfold f4_nodeWith at e
  refine lv_iload_n hx hb d4_nodeWith_0 rfl (lv_at hl 3 rfl) ?_
  refine lv_if_lt (tgt := 10) hx hb d4_nodeWith_1 (by decide) (fun hc1 => ?_) (fun hc1 => ?_)
  · have e := ce_if1 e hc1
    refine lv_iconst (v := (-1 : Int32)) hx hb d4_nodeWith_10 (by decide) ?_
    exact ce_iretE C (ce_sok aK aV B0) hH e d4_nodeWith_11
  · have e := ce_if0 e hc1
    refine lv_iload_n hx hb d4_nodeWith_4 rfl (lv_at hl 3 rfl) ?_
    refine lv_bipush (v := (10 : Int32)) hx hb d4_nodeWith_5 (by decide) ?_
    refine lv_icmp_lt (tgt := 12) hx hb d4_nodeWith_7 (by decide) (fun hc7 => ?_) (fun hc7 => ?_)
    · have e := ce_if1 e hc7
      refine lv_aload_n hx hb d4_nodeWith_12 rfl (lv_at hl 0 rfl) ?_
      refine gf_4_15 C hH d4_nodeWith_13 ?_
      refine lv_aload_n hx hb d4_nodeWith_16 rfl (lv_at hl 1 rfl) ?_
      refine lv_iload_n hx hb d4_nodeWith_17 rfl (lv_at hl 2 rfl) ?_
      obtain ⟨o18, eo18, e⟩ := ce_bd e
      refine ce_callV (As := [.int x2]) (rest := [.ref (ad 64)]) C (ce_sok aK aV B0) hH (c2_leastOf l D ad cA aK aV B0 C.2.2.2.2.2.2.1 F x2  h o18 eo18) lo_44.1 lo_44.2.choose_spec rfl rfl mc2_leastOf ml_4_35 mi2_leastOf ms2_leastOf mI_2 (n := 1) (by decide) rfl ⟨Nat.le_of_ble_eq_true rfl, Nat.le_of_ble_eq_true rfl⟩ ⟨Nat.le_of_ble_eq_true rfl, Nat.le_of_ble_eq_true rfl⟩ hl.1 rfl (Nat.le_of_ble_eq_true rfl) d4_nodeWith_18 (fun H locs hH => ?_)
      refine W.eq (g2 := F0 m 21 ls [.int o18.1, .ref (ad 64)]) rfl ?_
      refine lv_bipush (v := (10 : Int32)) hx hb d4_nodeWith_21 (by decide) ?_
      refine lv_imul hx hb d4_nodeWith_23 ?_
      refine lv_iload_n hx hb d4_nodeWith_24 rfl (lv_at hl 3 rfl) ?_
      refine lv_iadd hx hb d4_nodeWith_25 ?_
      obtain ⟨hi26, e⟩ := ce_gd e
      refine ce_iald C hH lc_64.1 lc_64.2 (ce_in_vp hi26) d4_nodeWith_26 ?_
      exact ce_iretE C (ce_sok aK aV B0) hH e d4_nodeWith_27
    · have e := ce_if0 e hc7
      refine lv_iconst (v := (-1 : Int32)) hx hb d4_nodeWith_10 (by decide) ?_
      exact ce_iretE C (ce_sok aK aV B0) hH e d4_nodeWith_11
abbrev b1_hearChild : ByteArray := prog_3_method_4_code
def y1_hearChild : MethodName := ⟨cn_1, "hearChild", "(LCableElection$Net;II)V"⟩
theorem d1_hearChild_0 : decode b1_hearChild 0 = .ok (.aload_n 1, 1) := by decide +kernel
theorem d1_hearChild_1 : decode b1_hearChild 1 = .ok (.getfield 68, 3) := by decide +kernel
theorem d1_hearChild_4 : decode b1_hearChild 4 = .ok (.iload_n 3, 1) := by decide +kernel
theorem d1_hearChild_5 : decode b1_hearChild 5 = .ok (.iaload, 1) := by decide +kernel
theorem d1_hearChild_6 : decode b1_hearChild 6 = .ok (.invokestatic 71, 3) := by decide +kernel
theorem d1_hearChild_9 : decode b1_hearChild 9 = .ok (.istore 4, 2) := by decide +kernel
theorem d1_hearChild_11 : decode b1_hearChild 11 = .ok (.aload_n 0, 1) := by decide +kernel
theorem d1_hearChild_12 : decode b1_hearChild 12 = .ok (.getfield 18, 3) := by decide +kernel
theorem d1_hearChild_15 : decode b1_hearChild 15 = .ok (.iload 4, 2) := by decide +kernel
theorem d1_hearChild_17 : decode b1_hearChild 17 = .ok (.iaload, 1) := by decide +kernel
theorem d1_hearChild_18 : decode b1_hearChild 18 = .ok (.iconst (-1), 1) := by decide +kernel
theorem d1_hearChild_19 : decode b1_hearChild 19 = .ok (.if_icmp .ne 4, 3) := by decide +kernel
theorem d1_hearChild_22 : decode b1_hearChild 22 = .ok (.return_, 1) := by decide +kernel
theorem d1_hearChild_23 : decode b1_hearChild 23 = .ok (.aload_n 0, 1) := by decide +kernel
theorem d1_hearChild_24 : decode b1_hearChild 24 = .ok (.getfield 18, 3) := by decide +kernel
theorem d1_hearChild_27 : decode b1_hearChild 27 = .ok (.iload 4, 2) := by decide +kernel
theorem d1_hearChild_29 : decode b1_hearChild 29 = .ok (.iaload, 1) := by decide +kernel
theorem d1_hearChild_30 : decode b1_hearChild 30 = .ok (.iload 4, 2) := by decide +kernel
theorem d1_hearChild_32 : decode b1_hearChild 32 = .ok (.if_icmp .ne 7, 3) := by decide +kernel
theorem d1_hearChild_35 : decode b1_hearChild 35 = .ok (.iconst 0, 1) := by decide +kernel
theorem d1_hearChild_36 : decode b1_hearChild 36 = .ok (.goto 7, 3) := by decide +kernel
theorem d1_hearChild_39 : decode b1_hearChild 39 = .ok (.aload_n 1, 1) := by decide +kernel
theorem d1_hearChild_40 : decode b1_hearChild 40 = .ok (.getfield 74, 3) := by decide +kernel
theorem d1_hearChild_43 : decode b1_hearChild 43 = .ok (.istore 5, 2) := by decide +kernel
theorem d1_hearChild_45 : decode b1_hearChild 45 = .ok (.aload_n 0, 1) := by decide +kernel
theorem d1_hearChild_46 : decode b1_hearChild 46 = .ok (.getfield 22, 3) := by decide +kernel
theorem d1_hearChild_49 : decode b1_hearChild 49 = .ok (.iload 4, 2) := by decide +kernel
theorem d1_hearChild_51 : decode b1_hearChild 51 = .ok (.iaload, 1) := by decide +kernel
theorem d1_hearChild_52 : decode b1_hearChild 52 = .ok (.iload 5, 2) := by decide +kernel
theorem d1_hearChild_54 : decode b1_hearChild 54 = .ok (.iadd, 1) := by decide +kernel
theorem d1_hearChild_55 : decode b1_hearChild 55 = .ok (.aload_n 1, 1) := by decide +kernel
theorem d1_hearChild_56 : decode b1_hearChild 56 = .ok (.getfield 77, 3) := by decide +kernel
theorem d1_hearChild_59 : decode b1_hearChild 59 = .ok (.iload_n 3, 1) := by decide +kernel
theorem d1_hearChild_60 : decode b1_hearChild 60 = .ok (.iaload, 1) := by decide +kernel
theorem d1_hearChild_61 : decode b1_hearChild 61 = .ok (.iadd, 1) := by decide +kernel
theorem d1_hearChild_62 : decode b1_hearChild 62 = .ok (.istore 6, 2) := by decide +kernel
theorem d1_hearChild_64 : decode b1_hearChild 64 = .ok (.iload 6, 2) := by decide +kernel
theorem d1_hearChild_66 : decode b1_hearChild 66 = .ok (.aload_n 0, 1) := by decide +kernel
theorem d1_hearChild_67 : decode b1_hearChild 67 = .ok (.getfield 22, 3) := by decide +kernel
theorem d1_hearChild_70 : decode b1_hearChild 70 = .ok (.iload_n 2, 1) := by decide +kernel
theorem d1_hearChild_71 : decode b1_hearChild 71 = .ok (.iaload, 1) := by decide +kernel
theorem d1_hearChild_72 : decode b1_hearChild 72 = .ok (.if_icmp .ge 24, 3) := by decide +kernel
theorem d1_hearChild_75 : decode b1_hearChild 75 = .ok (.aload_n 0, 1) := by decide +kernel
theorem d1_hearChild_76 : decode b1_hearChild 76 = .ok (.getfield 18, 3) := by decide +kernel
theorem d1_hearChild_79 : decode b1_hearChild 79 = .ok (.iload_n 2, 1) := by decide +kernel
theorem d1_hearChild_80 : decode b1_hearChild 80 = .ok (.aload_n 0, 1) := by decide +kernel
theorem d1_hearChild_81 : decode b1_hearChild 81 = .ok (.getfield 18, 3) := by decide +kernel
theorem d1_hearChild_84 : decode b1_hearChild 84 = .ok (.iload 4, 2) := by decide +kernel
theorem d1_hearChild_86 : decode b1_hearChild 86 = .ok (.iaload, 1) := by decide +kernel
theorem d1_hearChild_87 : decode b1_hearChild 87 = .ok (.iastore, 1) := by decide +kernel
theorem d1_hearChild_88 : decode b1_hearChild 88 = .ok (.aload_n 0, 1) := by decide +kernel
theorem d1_hearChild_89 : decode b1_hearChild 89 = .ok (.getfield 22, 3) := by decide +kernel
theorem d1_hearChild_92 : decode b1_hearChild 92 = .ok (.iload_n 2, 1) := by decide +kernel
theorem d1_hearChild_93 : decode b1_hearChild 93 = .ok (.iload 6, 2) := by decide +kernel
theorem d1_hearChild_95 : decode b1_hearChild 95 = .ok (.iastore, 1) := by decide +kernel
theorem d1_hearChild_96 : decode b1_hearChild 96 = .ok (.return_, 1) := by decide +kernel
theorem fl_1_68 : Cond.fieldLink cn_1 68 (ft_5 9).1 (ft_5 9).2.1 (ft_5 9).2.2.1 ∈ ce_cm := ce_cm_of (List.mem_of_getElem? (i := 230) (by decide +kernel)) (by decide +kernel)
theorem gf_1_68 (C : ce_Cx p s m args c meth cc nL ret cn_1 D ad cA B0 (ce_St aK aV B0)) (hH : ce_H D ad cA B0 X s h H locs) {k : Nat} (hk : ce_isNet k) (hdg : decode cc pc = .ok (.getfield 68, 3)) (kk : W p l e0 R s m args below meth c H locs cells slots Q (F0 m (pc + 3) ls (.ref (ad (k + 5)) :: rest))) : W p l e0 R s m args below meth c H locs cells slots Q (F0 m pc ls (.ref (ad k) :: rest)) := by
  rcases hk with rfl | rfl
  · exact ce_get C hH (k := 7) (ci := 5) (j := 9) (N := 11) (sj := some (some 12)) (by decide) rfl rfl fw_5 (by decide) fl_1_68 rfl hdg kk
  · exact ce_get C hH (k := 14) (ci := 5) (j := 9) (N := 11) (sj := some (some 19)) (by decide) rfl rfl fw_5 (by decide) fl_1_68 rfl hdg kk
theorem fl_1_18 : Cond.fieldLink cn_1 18 (ft_1 2).1 (ft_1 2).2.1 (ft_1 2).2.2.1 ∈ ce_cm := ce_cm_of (List.mem_of_getElem? (i := 426) (by decide +kernel)) (by decide +kernel)
theorem gf_1_18 (C : ce_Cx p s m args c meth cc nL ret cn_1 D ad cA B0 (ce_St aK aV B0)) (hH : ce_H D ad cA B0 X s h H locs) (hdg : decode cc pc = .ok (.getfield 18, 3)) (kk : W p l e0 R s m args below meth c H locs cells slots Q (F0 m (pc + 3) ls (.ref (ad 66) :: rest))) : W p l e0 R s m args below meth c H locs cells slots Q (F0 m pc ls (.ref (ad 65) :: rest)) := by
  exact ce_get C hH (k := 65) (ci := 1) (j := 2) (N := 4) (sj := some (some 66)) (by decide) rfl rfl fw_1 (by decide) fl_1_18 rfl hdg kk
theorem lc_66 : 66 < 96 ∧ ce_lay 66 = .inl (0, 10) := ⟨by decide, rfl⟩
theorem fl_1_74 : Cond.fieldLink cn_1 74 (ft_5 2).1 (ft_5 2).2.1 (ft_5 2).2.2.1 ∈ ce_cm := ce_cm_of (List.mem_of_getElem? (i := 202) (by decide +kernel)) (by decide +kernel)
theorem gf_1_74 (C : ce_Cx p s m args c meth cc nL ret cn_1 D ad cA B0 (ce_St aK aV B0)) (hH : ce_H D ad cA B0 X s h H locs) {k : Nat} (hk : ce_isNet k) (hdg : decode cc pc = .ok (.getfield 74, 3)) (kk : W p l e0 R s m args below meth c H locs cells slots Q (F0 m (pc + 3) ls (.int (h k 2) :: rest))) : W p l e0 R s m args below meth c H locs cells slots Q (F0 m pc ls (.ref (ad k) :: rest)) := by
  rcases hk with rfl | rfl
  · exact ce_get C hH (k := 7) (ci := 5) (j := 2) (N := 11) (sj := none) (by decide) rfl rfl fw_5 (by decide) fl_1_74 rfl hdg kk
  · exact ce_get C hH (k := 14) (ci := 5) (j := 2) (N := 11) (sj := none) (by decide) rfl rfl fw_5 (by decide) fl_1_74 rfl hdg kk
theorem pf_1_74 (C : ce_Cx p s m args c meth cc nL ret cn_1 D ad cA B0 (ce_St aK aV B0)) (hH : ce_H D ad cA B0 X s h H locs) {k : Nat} (hk : ce_isNet k) {x : Int32} (hdg : decode cc pc = .ok (.putfield 74, 3)) (kk : ∀ (H1 : Heap) (locs1 : List Loc), ce_H D ad cA B0 X s (hp_up h k 2 x) H1 locs1 → W p l e0 R s m args below meth c H1 locs1 cells slots Q (F0 m (pc + 3) ls rest)) : W p l e0 R s m args below meth c H locs cells slots Q (F0 m pc ls (.int x :: .ref (ad k) :: rest)) := by
  rcases hk with rfl | rfl
  · exact ce_put C hH (k := 7) (ci := 5) (j := 2) (N := 11) (fy := fy_5) (sj := none) x (by decide) rfl rfl fw_5 fo_5 fn_5 (by decide) fl_1_74 rfl rfl (v := .int x) (by simp [ce_slot, upd]) rfl rfl hdg kk
  · exact ce_put C hH (k := 14) (ci := 5) (j := 2) (N := 11) (fy := fy_5) (sj := none) x (by decide) rfl rfl fw_5 fo_5 fn_5 (by decide) fl_1_74 rfl rfl (v := .int x) (by simp [ce_slot, upd]) rfl rfl hdg kk
theorem fl_1_22 : Cond.fieldLink cn_1 22 (ft_1 3).1 (ft_1 3).2.1 (ft_1 3).2.2.1 ∈ ce_cm := ce_cm_of (List.mem_of_getElem? (i := 427) (by decide +kernel)) (by decide +kernel)
theorem gf_1_22 (C : ce_Cx p s m args c meth cc nL ret cn_1 D ad cA B0 (ce_St aK aV B0)) (hH : ce_H D ad cA B0 X s h H locs) (hdg : decode cc pc = .ok (.getfield 22, 3)) (kk : W p l e0 R s m args below meth c H locs cells slots Q (F0 m (pc + 3) ls (.ref (ad 67) :: rest))) : W p l e0 R s m args below meth c H locs cells slots Q (F0 m pc ls (.ref (ad 65) :: rest)) := by
  exact ce_get C hH (k := 65) (ci := 1) (j := 3) (N := 4) (sj := some (some 67)) (by decide) rfl rfl fw_1 (by decide) fl_1_22 rfl hdg kk
theorem lc_67 : 67 < 96 ∧ ce_lay 67 = .inl (0, 10) := ⟨by decide, rfl⟩
theorem fl_1_77 : Cond.fieldLink cn_1 77 (ft_5 10).1 (ft_5 10).2.1 (ft_5 10).2.2.1 ∈ ce_cm := ce_cm_of (List.mem_of_getElem? (i := 237) (by decide +kernel)) (by decide +kernel)
theorem gf_1_77 (C : ce_Cx p s m args c meth cc nL ret cn_1 D ad cA B0 (ce_St aK aV B0)) (hH : ce_H D ad cA B0 X s h H locs) {k : Nat} (hk : ce_isNet k) (hdg : decode cc pc = .ok (.getfield 77, 3)) (kk : W p l e0 R s m args below meth c H locs cells slots Q (F0 m (pc + 3) ls (.ref (ad (k + 6)) :: rest))) : W p l e0 R s m args below meth c H locs cells slots Q (F0 m pc ls (.ref (ad k) :: rest)) := by
  rcases hk with rfl | rfl
  · exact ce_get C hH (k := 7) (ci := 5) (j := 10) (N := 11) (sj := some (some 13)) (by decide) rfl rfl fw_5 (by decide) fl_1_77 rfl hdg kk
  · exact ce_get C hH (k := 14) (ci := 5) (j := 10) (N := 11) (sj := some (some 20)) (by decide) rfl rfl fw_5 (by decide) fl_1_77 rfl hdg kk
def f1_hearChild_j43 (F : Nat) (k1 : Nat) (x2 : Int32) (x3 : Int32) (x4 : Int32) (s0 : Int32) (h : Hp) : Option (Hp) :=
  if ce_in x4 10 = true then
    if ce_in x3 40 = true then
      if ce_in x2 10 = true then
        if (h 67 (x2).toNatClampNeg) ≤ (((h 67 (x4).toNatClampNeg) + s0) + (h (k1 + 6) (x3).toNatClampNeg)) then
          some h
        else
          if ce_in x4 10 = true then
            if ce_in x2 10 = true then
              ce_nm (hp_up h 66 (x2).toNatClampNeg (h 66 (x4).toNatClampNeg)) (fun h_87 =>
                if ce_in x2 10 = true then
                  ce_nm (hp_up h_87 67 (x2).toNatClampNeg (((h 67 (x4).toNatClampNeg) + s0) + (h (k1 + 6) (x3).toNatClampNeg))) (fun h_95 =>
                    some h_95)
                else none)
            else none
          else none
      else none
    else none
  else none
set_option maxRecDepth 20000 in
theorem j1_hearChild_43 (C : ce_Cx p s m args c meth b1_hearChild 7 none cn_1 D ad cA B0 (ce_St aK aV B0)) (F : Nat) (k1 : Nat) (x2 : Int32) (x3 : Int32) (x4 : Int32) (s0 : Int32) (hk1 : ce_isNet k1) (r : Hp) (h : Hp) (H : Heap) (locs : List Loc) (ls : Array Slot) (hH : ce_H D ad cA B0 [] s h H locs) (hl : lv_has ls 7 [(0, .ref (ad 65)), (1, .ref (ad k1)), (2, .int x2), (3, .int x3), (4, .int x4)]) (e : Option.bind (f1_hearChild_j43 F k1 x2 x3 x4 s0 h) some = some r) : W p l e0 { frames := 1, cells := 0, slots := 0, locals := 20 } s m args below meth c H locs 0 0 (MQ below (ce_Q D ad cA B0 (ce_St aK aV B0) none r) args s 0 0 (fun q => B0 ≤ q)) (F0 m 43 ls [.int s0]) := by
  have hx9 := C.1
  have hb := C.2.1
  unfold f1_hearChild_j43 at e
  refine lv_istore (lv' := [(5, .int s0), (0, .ref (ad 65)), (1, .ref (ad k1)), (2, .int x2), (3, .int x3), (4, .int x4)]) hx9 hb d1_hearChild_43 hl (by decide) rfl (fun ls hl => ?_)
  refine lv_aload_n hx9 hb d1_hearChild_45 rfl (lv_at hl 1 rfl) ?_
  refine gf_1_22 C hH d1_hearChild_46 ?_
  refine lv_iload hx9 hb d1_hearChild_49 (lv_at hl 5 rfl) ?_
  obtain ⟨hi51, e⟩ := ce_gd e
  refine ce_iald C hH lc_67.1 lc_67.2 (ce_in_vp hi51) d1_hearChild_51 ?_
  refine lv_iload hx9 hb d1_hearChild_52 (lv_at hl 0 rfl) ?_
  refine lv_iadd hx9 hb d1_hearChild_54 ?_
  refine lv_aload_n hx9 hb d1_hearChild_55 rfl (lv_at hl 2 rfl) ?_
  refine gf_1_77 C hH hk1 d1_hearChild_56 ?_
  refine lv_iload_n hx9 hb d1_hearChild_59 rfl (lv_at hl 4 rfl) ?_
  obtain ⟨hi60, e⟩ := ce_gd e
  refine ce_iald C hH (la_Net_6 hk1).1 (la_Net_6 hk1).2 (ce_in_vp hi60) d1_hearChild_60 ?_
  refine lv_iadd hx9 hb d1_hearChild_61 ?_
  refine lv_istore (lv' := [(6, .int (((h 67 (x4).toNatClampNeg) + s0) + (h (k1 + 6) (x3).toNatClampNeg))), (5, .int s0), (0, .ref (ad 65)), (1, .ref (ad k1)), (2, .int x2), (3, .int x3), (4, .int x4)]) hx9 hb d1_hearChild_62 hl (by decide) rfl (fun ls hl => ?_)
  refine lv_iload hx9 hb d1_hearChild_64 (lv_at hl 0 rfl) ?_
  refine lv_aload_n hx9 hb d1_hearChild_66 rfl (lv_at hl 2 rfl) ?_
  refine gf_1_22 C hH d1_hearChild_67 ?_
  refine lv_iload_n hx9 hb d1_hearChild_70 rfl (lv_at hl 4 rfl) ?_
  obtain ⟨hi71, e⟩ := ce_gd e
  refine ce_iald C hH lc_67.1 lc_67.2 (ce_in_vp hi71) d1_hearChild_71 ?_
  refine lv_icmp_ge (tgt := 96) hx9 hb d1_hearChild_72 (by decide) (fun hc72 => ?_) (fun hc72 => ?_)
  · have e := ce_if1 e hc72
    exact ce_vret C (ce_sok aK aV B0) hH (Option.some.inj e) d1_hearChild_96
  · have e := ce_if0 e hc72
    refine lv_aload_n hx9 hb d1_hearChild_75 rfl (lv_at hl 2 rfl) ?_
    refine gf_1_18 C hH d1_hearChild_76 ?_
    refine lv_iload_n hx9 hb d1_hearChild_79 rfl (lv_at hl 4 rfl) ?_
    refine lv_aload_n hx9 hb d1_hearChild_80 rfl (lv_at hl 2 rfl) ?_
    refine gf_1_18 C hH d1_hearChild_81 ?_
    refine lv_iload hx9 hb d1_hearChild_84 (lv_at hl 6 rfl) ?_
    obtain ⟨hi86, e⟩ := ce_gd e
    refine ce_iald C hH lc_66.1 lc_66.2 (ce_in_vp hi86) d1_hearChild_86 ?_
    obtain ⟨hi87, e⟩ := ce_gd e
    refine ce_iast C hH lc_66.1 lc_66.2 (ce_in_vp hi87) d1_hearChild_87 (fun H locs hH => ?_)
    obtain ⟨h_87, eh_87, e⟩ := ce_nmE e
    rw [← eh_87] at hH
    refine lv_aload_n hx9 hb d1_hearChild_88 rfl (lv_at hl 2 rfl) ?_
    refine gf_1_22 C hH d1_hearChild_89 ?_
    refine lv_iload_n hx9 hb d1_hearChild_92 rfl (lv_at hl 4 rfl) ?_
    refine lv_iload hx9 hb d1_hearChild_93 (lv_at hl 0 rfl) ?_
    obtain ⟨hi95, e⟩ := ce_gd e
    refine ce_iast C hH lc_67.1 lc_67.2 (ce_in_vp hi95) d1_hearChild_95 (fun H locs hH => ?_)
    obtain ⟨h_95, eh_95, e⟩ := ce_nmE e
    rw [← eh_95] at hH
    exact ce_vret C (ce_sok aK aV B0) hH (Option.some.inj e) d1_hearChild_96
def f1_hearChild (F : Nat) (k1 : Nat) (x2 : Int32) (x3 : Int32) (h : Hp) : Option (Hp) :=
  if ce_in x3 40 = true then
    Option.bind (f11_nodeOf F (h (k1 + 5) (x3).toNatClampNeg) h) (fun o6 =>
      if ce_in o6.1 10 = true then
        if (o6.2 66 (o6.1).toNatClampNeg) = (-1 : Int32) then
          some o6.2
        else
          if ce_in o6.1 10 = true then
            if (o6.2 66 (o6.1).toNatClampNeg) = o6.1 then
              f1_hearChild_j43 F k1 x2 x3 o6.1 (0 : Int32) o6.2
            else
              f1_hearChild_j43 F k1 x2 x3 o6.1 (o6.2 k1 2) o6.2
          else none
      else none)
  else none
set_option maxRecDepth 20000 in
theorem c1_hearChild (l : Launch) (D : va_G) (ad : Nat → Nat) (cA : Nat → ClassId) (aK aV : Nat → Nat) (B0 : Nat) (hA : ce_Ad ad B0) (F : Nat) (k1 : Nat) (x2 : Int32) (x3 : Int32) (hk1 : ce_isNet k1) (h : Hp) (r : Hp) (e : f1_hearChild F k1 x2 x3 h = some r) : ce_Ct l D ad cA B0 (ce_St aK aV B0) y1_hearChild b1_hearChild 7 none 1 20 0 0 [.ref (ad 65), .ref (ad k1), .int x2, .int x3] h none r := by
  refine ce_enter hA (by decide) rfl (Nat.le_of_ble_eq_true rfl) (fun p e0 s m below meth c ls C hH hl => ?_)
  have hl : lv_has ls 7 [(0, .ref (ad 65)), (1, .ref (ad k1)), (2, .int x2), (3, .int x3)] := hl
  have hx := C.1
  have hb := C.2.1
  have e : Option.bind _ some = some r := (congrArg (fun z => Option.bind z some) e).trans rfl
  unfold f1_hearChild at e
  refine lv_aload_n hx hb d1_hearChild_0 rfl (lv_at hl 1 rfl) ?_
  refine gf_1_68 C hH hk1 d1_hearChild_1 ?_
  refine lv_iload_n hx hb d1_hearChild_4 rfl (lv_at hl 3 rfl) ?_
  obtain ⟨hi5, e⟩ := ce_gd e
  refine ce_iald C hH (la_Net_5 hk1).1 (la_Net_5 hk1).2 (ce_in_vp hi5) d1_hearChild_5 ?_
  obtain ⟨o6, eo6, e⟩ := ce_bd e
  refine ce_callN (As := [.int (h (k1 + 5) (x3).toNatClampNeg)]) (rest := []) C (ce_sok aK aV B0) hH (c11_nodeOf l D ad cA aK aV B0 C.2.2.2.2.2.2.1 F (h (k1 + 5) (x3).toNatClampNeg)  h o6 eo6) mc11_nodeOf (ce_nwW C.2.2.2.2.2.2.2.2.2.2 22 rfl) mt11_nodeOf mI_11 (n := 1) (by decide) rfl ⟨Nat.le_of_ble_eq_true rfl, Nat.le_of_ble_eq_true rfl⟩ ⟨Nat.le_of_ble_eq_true rfl, Nat.le_of_ble_eq_true rfl⟩ hl.1 rfl (Nat.le_of_ble_eq_true rfl) d1_hearChild_6 (fun H locs hH => ?_)
  refine W.eq (g2 := F0 m 9 ls [.int o6.1]) rfl ?_
  refine lv_istore (lv' := [(4, .int o6.1), (0, .ref (ad 65)), (1, .ref (ad k1)), (2, .int x2), (3, .int x3)]) hx hb d1_hearChild_9 hl (by decide) rfl (fun ls hl => ?_)
  refine lv_aload_n hx hb d1_hearChild_11 rfl (lv_at hl 1 rfl) ?_
  refine gf_1_18 C hH d1_hearChild_12 ?_
  refine lv_iload hx hb d1_hearChild_15 (lv_at hl 0 rfl) ?_
  obtain ⟨hi17, e⟩ := ce_gd e
  refine ce_iald C hH lc_66.1 lc_66.2 (ce_in_vp hi17) d1_hearChild_17 ?_
  refine lv_iconst (v := (-1 : Int32)) hx hb d1_hearChild_18 (by decide) ?_
  refine lv_icmp_ne (tgt := 23) hx hb d1_hearChild_19 (by decide) (fun hc19 => ?_) (fun hc19 => ?_)
  · have e := ce_if0 e hc19
    refine lv_aload_n hx hb d1_hearChild_23 rfl (lv_at hl 1 rfl) ?_
    refine gf_1_18 C hH d1_hearChild_24 ?_
    refine lv_iload hx hb d1_hearChild_27 (lv_at hl 0 rfl) ?_
    obtain ⟨hi29, e⟩ := ce_gd e
    refine ce_iald C hH lc_66.1 lc_66.2 (ce_in_vp hi29) d1_hearChild_29 ?_
    refine lv_iload hx hb d1_hearChild_30 (lv_at hl 0 rfl) ?_
    refine lv_icmp_ne (tgt := 39) hx hb d1_hearChild_32 (by decide) (fun hc32 => ?_) (fun hc32 => ?_)
    · have e := ce_if0 e hc32
      refine lv_aload_n hx hb d1_hearChild_39 rfl (lv_at hl 2 rfl) ?_
      refine gf_1_74 C hH hk1 d1_hearChild_40 ?_
      exact j1_hearChild_43 C F k1 x2 x3 o6.1 (o6.2 k1 2) hk1 r o6.2 _ _ _ hH (lv_sub hl [1, 2, 3, 4, 0] rfl) e
    · have e := ce_if1 e hc32
      refine lv_iconst (v := (0 : Int32)) hx hb d1_hearChild_35 (by decide) ?_
      refine lv_goto (tgt := 43) hx hb d1_hearChild_36 (by decide) ?_
      exact j1_hearChild_43 C F k1 x2 x3 o6.1 (0 : Int32) hk1 r o6.2 _ _ _ hH (lv_sub hl [1, 2, 3, 4, 0] rfl) e
  · have e := ce_if1 e hc19
    exact ce_vret C (ce_sok aK aV B0) hH (Option.some.inj e) d1_hearChild_22
abbrev b1_hear : ByteArray := prog_3_method_3_code
def y1_hear : MethodName := ⟨cn_1, "hear", "(LCableElection$Net;LCableElection$Election;II)V"⟩
theorem d1_hear_0 : decode b1_hear 0 = .ok (.aload_n 0, 1) := by decide +kernel
theorem d1_hear_1 : decode b1_hear 1 = .ok (.getfield 18, 3) := by decide +kernel
theorem d1_hear_4 : decode b1_hear 4 = .ok (.iload_n 3, 1) := by decide +kernel
theorem d1_hear_5 : decode b1_hear 5 = .ok (.iload 4, 2) := by decide +kernel
theorem d1_hear_7 : decode b1_hear 7 = .ok (.iload_n 3, 1) := by decide +kernel
theorem d1_hear_8 : decode b1_hear 8 = .ok (.invokestatic 44, 3) := by decide +kernel
theorem d1_hear_11 : decode b1_hear 11 = .ok (.ifCond .eq 7, 3) := by decide +kernel
theorem d1_hear_14 : decode b1_hear 14 = .ok (.iload_n 3, 1) := by decide +kernel
theorem d1_hear_15 : decode b1_hear 15 = .ok (.goto 4, 3) := by decide +kernel
theorem d1_hear_18 : decode b1_hear 18 = .ok (.iconst (-1), 1) := by decide +kernel
theorem d1_hear_19 : decode b1_hear 19 = .ok (.iastore, 1) := by decide +kernel
theorem d1_hear_20 : decode b1_hear 20 = .ok (.aload_n 0, 1) := by decide +kernel
theorem d1_hear_21 : decode b1_hear 21 = .ok (.getfield 22, 3) := by decide +kernel
theorem d1_hear_24 : decode b1_hear 24 = .ok (.iload_n 3, 1) := by decide +kernel
theorem d1_hear_25 : decode b1_hear 25 = .ok (.iload 4, 2) := by decide +kernel
theorem d1_hear_27 : decode b1_hear 27 = .ok (.iload_n 3, 1) := by decide +kernel
theorem d1_hear_28 : decode b1_hear 28 = .ok (.invokestatic 44, 3) := by decide +kernel
theorem d1_hear_31 : decode b1_hear 31 = .ok (.ifCond .eq 7, 3) := by decide +kernel
theorem d1_hear_34 : decode b1_hear 34 = .ok (.iconst 0, 1) := by decide +kernel
theorem d1_hear_35 : decode b1_hear 35 = .ok (.goto 5, 3) := by decide +kernel
theorem d1_hear_38 : decode b1_hear 38 = .ok (.ldc 48, 2) := by decide +kernel
theorem d1_hear_40 : decode b1_hear 40 = .ok (.iastore, 1) := by decide +kernel
theorem d1_hear_41 : decode b1_hear 41 = .ok (.iconst 0, 1) := by decide +kernel
theorem d1_hear_42 : decode b1_hear 42 = .ok (.istore 5, 2) := by decide +kernel
theorem d1_hear_44 : decode b1_hear 44 = .ok (.iload 5, 2) := by decide +kernel
theorem d1_hear_46 : decode b1_hear 46 = .ok (.aload_n 1, 1) := by decide +kernel
theorem d1_hear_47 : decode b1_hear 47 = .ok (.getfield 49, 3) := by decide +kernel
theorem d1_hear_50 : decode b1_hear 50 = .ok (.iload_n 3, 1) := by decide +kernel
theorem d1_hear_51 : decode b1_hear 51 = .ok (.iaload, 1) := by decide +kernel
theorem d1_hear_52 : decode b1_hear 52 = .ok (.if_icmp .ge 36, 3) := by decide +kernel
theorem d1_hear_55 : decode b1_hear 55 = .ok (.iload_n 3, 1) := by decide +kernel
theorem d1_hear_56 : decode b1_hear 56 = .ok (.iload 5, 2) := by decide +kernel
theorem d1_hear_58 : decode b1_hear 58 = .ok (.invokestatic 54, 3) := by decide +kernel
theorem d1_hear_61 : decode b1_hear 61 = .ok (.istore 6, 2) := by decide +kernel
theorem d1_hear_63 : decode b1_hear 63 = .ok (.aload_n 2, 1) := by decide +kernel
theorem d1_hear_64 : decode b1_hear 64 = .ok (.aload_n 1, 1) := by decide +kernel
theorem d1_hear_65 : decode b1_hear 65 = .ok (.iload 6, 2) := by decide +kernel
theorem d1_hear_67 : decode b1_hear 67 = .ok (.invokevirtual 58, 3) := by decide +kernel
theorem d1_hear_70 : decode b1_hear 70 = .ok (.iconst 2, 1) := by decide +kernel
theorem d1_hear_71 : decode b1_hear 71 = .ok (.if_icmp .ne 11, 3) := by decide +kernel
theorem d1_hear_74 : decode b1_hear 74 = .ok (.aload_n 0, 1) := by decide +kernel
theorem d1_hear_75 : decode b1_hear 75 = .ok (.aload_n 1, 1) := by decide +kernel
theorem d1_hear_76 : decode b1_hear 76 = .ok (.iload_n 3, 1) := by decide +kernel
theorem d1_hear_77 : decode b1_hear 77 = .ok (.iload 6, 2) := by decide +kernel
theorem d1_hear_79 : decode b1_hear 79 = .ok (.invokevirtual 64, 3) := by decide +kernel
theorem d1_hear_82 : decode b1_hear 82 = .ok (.iinc 5 1, 3) := by decide +kernel
theorem d1_hear_85 : decode b1_hear 85 = .ok (.goto (-41), 3) := by decide +kernel
theorem d1_hear_88 : decode b1_hear 88 = .ok (.return_, 1) := by decide +kernel
theorem mk_1_48 : Cond.constant cn_1 48 (1000000) ∈ ce_cm := ce_cm_of (List.mem_of_getElem? (i := 1027) (by decide +kernel)) (by decide +kernel)
theorem fl_1_49 : Cond.fieldLink cn_1 49 (ft_5 5).1 (ft_5 5).2.1 (ft_5 5).2.2.1 ∈ ce_cm := ce_cm_of (List.mem_of_getElem? (i := 216) (by decide +kernel)) (by decide +kernel)
theorem gf_1_49 (C : ce_Cx p s m args c meth cc nL ret cn_1 D ad cA B0 (ce_St aK aV B0)) (hH : ce_H D ad cA B0 X s h H locs) {k : Nat} (hk : ce_isNet k) (hdg : decode cc pc = .ok (.getfield 49, 3)) (kk : W p l e0 R s m args below meth c H locs cells slots Q (F0 m (pc + 3) ls (.ref (ad (k + 1)) :: rest))) : W p l e0 R s m args below meth c H locs cells slots Q (F0 m pc ls (.ref (ad k) :: rest)) := by
  rcases hk with rfl | rfl
  · exact ce_get C hH (k := 7) (ci := 5) (j := 5) (N := 11) (sj := some (some 8)) (by decide) rfl rfl fw_5 (by decide) fl_1_49 rfl hdg kk
  · exact ce_get C hH (k := 14) (ci := 5) (j := 5) (N := 11) (sj := some (some 15)) (by decide) rfl rfl fw_5 (by decide) fl_1_49 rfl hdg kk
theorem lo_65 : 65 < 96 ∧ ∃ sl, ce_lay 65 = .inr (1, sl) := ⟨by decide, _, rfl⟩
theorem mc1_hearChild : Cond.code y1_hearChild b1_hearChild 7 none ∈ ce_cm := ce_cm_of (List.mem_of_getElem? (i := 1033) (by decide +kernel)) (by decide +kernel)
theorem ml_1_64 : Cond.methodLink cn_1 64 y1_hearChild ∈ ce_cm := ce_cm_of (List.mem_of_getElem? (i := 1030) (by decide +kernel)) (by decide +kernel)
theorem mi1_hearChild : Cond.instanceMethod y1_hearChild ∈ ce_cm := ce_cm_of (List.mem_of_getElem? (i := 1032) (by decide +kernel)) (by decide +kernel)
theorem ms1_hearChild : Cond.selects cn_1 y1_hearChild y1_hearChild ∈ ce_cm := ce_cm_of (List.mem_of_getElem? (i := 29) (by decide +kernel)) (by decide +kernel)
theorem mI_1 : Cond.initialized cn_1 ∈ ce_cm := ce_cm_of (List.mem_of_getElem? (i := 102) (by decide +kernel)) (by decide +kernel)
theorem ml_1_58 : Cond.methodLink cn_1 58 y3_roleOf ∈ ce_cm := ce_cm_of (List.mem_of_getElem? (i := 1029) (by decide +kernel)) (by decide +kernel)
def f1_hear_b44 (F : Nat) (k1 : Nat) (k2 : Nat) (x3 : Int32) (x5 : Int32) (h : Hp) : Option ((Int32 × Hp) ⊕ (Hp)) :=
  if ce_in x3 10 = true then
    if (h (k1 + 1) (x3).toNatClampNeg) ≤ x5 then
      some (.inr h)
    else
      Option.bind (f11_endOf F x3 x5 h) (fun o58 =>
        Option.bind (f3_roleOf F k2 k1 o58.1 o58.2) (fun o67 =>
          if o67.1 = (2 : Int32) then
            Option.bind (f1_hearChild F k1 x3 o58.1 o67.2) (fun o79 =>
              some (.inl (x5 + (1 : Int32), o79)))
          else
            some (.inl (x5 + (1 : Int32), o67.2))))
  else none
set_option maxRecDepth 20000 in
theorem l1_hear_44 (C : ce_Cx p s m args c meth b1_hear 7 none cn_1 D ad cA B0 (ce_St aK aV B0)) (F : Nat) (k1 : Nat) (k2 : Nat) (x3 : Int32) (hk1 : ce_isNet k1) (hk2 : ce_isEl k2) (r : Hp) (g : (Hp) → Option (Hp)) (hx : ∀  (h : Hp) (H : Heap) (locs : List Loc) (ls : Array Slot), ce_H D ad cA B0 [] s h H locs → lv_has ls 7 [] → g h = some r → W p l e0 { frames := 2, cells := 0, slots := 0, locals := 46 } s m args below meth c H locs 0 0 (MQ below (ce_Q D ad cA B0 (ce_St aK aV B0) none r) args s 0 0 (fun q => B0 ≤ q)) (F0 m 88 ls [])) : ∀ (n : Nat) (x5 : Int32) (h : Hp) (H : Heap) (locs : List Loc) (ls : Array Slot), ce_H D ad cA B0 [] s h H locs → lv_has ls 7 [(0, .ref (ad 65)), (1, .ref (ad k1)), (2, .ref (ad k2)), (3, .int x3), (5, .int x5)] → Option.bind (ce_it (fun (st : Int32 × Hp) => f1_hear_b44 F k1 k2 x3 st.1 st.2) n (x5, h)) g = some r → W p l e0 { frames := 2, cells := 0, slots := 0, locals := 46 } s m args below meth c H locs 0 0 (MQ below (ce_Q D ad cA B0 (ce_St aK aV B0) none r) args s 0 0 (fun q => B0 ≤ q)) (F0 m 44 ls []) := by
  intro n
  induction n with
  | zero =>
    intro x5 h H locs ls hH hl e
    exact absurd e (fun z => by cases z)
  | succ n ih =>
    intro x5 h H locs ls hH hl e
    have hx9 := C.1
    have hb := C.2.1
    have e : Option.bind (f1_hear_b44 F k1 k2 x3 x5 h) _ = some r := ce_it_bd e
    unfold f1_hear_b44 at e
    refine lv_iload hx9 hb d1_hear_44 (lv_at hl 4 rfl) ?_
    refine lv_aload_n hx9 hb d1_hear_46 rfl (lv_at hl 1 rfl) ?_
    refine gf_1_49 C hH hk1 d1_hear_47 ?_
    refine lv_iload_n hx9 hb d1_hear_50 rfl (lv_at hl 3 rfl) ?_
    obtain ⟨hi51, e⟩ := ce_gd e
    refine ce_iald C hH (la_Net_1 hk1).1 (la_Net_1 hk1).2 (ce_in_vp hi51) d1_hear_51 ?_
    refine lv_icmp_ge (tgt := 88) hx9 hb d1_hear_52 (by decide) (fun hc52 => ?_) (fun hc52 => ?_)
    · have e := ce_if1 e hc52
      exact hx  h _ _ _ hH (lv_sub hl [] rfl) e
    · have e := ce_if0 e hc52
      refine lv_iload_n hx9 hb d1_hear_55 rfl (lv_at hl 3 rfl) ?_
      refine lv_iload hx9 hb d1_hear_56 (lv_at hl 4 rfl) ?_
      obtain ⟨o58, eo58, e⟩ := ce_bd e
      refine ce_callN (As := [.int x3, .int x5]) (rest := []) C (ce_sok aK aV B0) hH (c11_endOf l D ad cA aK aV B0 C.2.2.2.2.2.2.1 F x3 x5  h o58 eo58) mc11_endOf (ce_nwW C.2.2.2.2.2.2.2.2.2.2 21 rfl) mt11_endOf mI_11 (n := 2) (by decide) rfl ⟨Nat.le_of_ble_eq_true rfl, Nat.le_of_ble_eq_true rfl⟩ ⟨Nat.le_of_ble_eq_true rfl, Nat.le_of_ble_eq_true rfl⟩ hl.1 rfl (Nat.le_of_ble_eq_true rfl) d1_hear_58 (fun H locs hH => ?_)
      refine W.eq (g2 := F0 m 61 ls [.int o58.1]) rfl ?_
      refine lv_istore (lv' := [(6, .int o58.1), (0, .ref (ad 65)), (1, .ref (ad k1)), (2, .ref (ad k2)), (3, .int x3), (5, .int x5)]) hx9 hb d1_hear_61 hl (by decide) rfl (fun ls hl => ?_)
      refine lv_aload_n hx9 hb d1_hear_63 rfl (lv_at hl 3 rfl) ?_
      refine lv_aload_n hx9 hb d1_hear_64 rfl (lv_at hl 2 rfl) ?_
      refine lv_iload hx9 hb d1_hear_65 (lv_at hl 0 rfl) ?_
      obtain ⟨o67, eo67, e⟩ := ce_bd e
      refine ce_callV (As := [.ref (ad k1), .int o58.1]) (rest := []) C (ce_sok aK aV B0) hH (c3_roleOf l D ad cA aK aV B0 C.2.2.2.2.2.2.1 F k2 k1 o58.1 hk2 hk1 o58.2 o67 eo67) (lk_El hk2).1 (lk_El hk2).2.choose_spec rfl rfl mc3_roleOf ml_1_58 mi3_roleOf ms3_roleOf mI_3 (n := 2) (by decide) rfl ⟨Nat.le_of_ble_eq_true rfl, Nat.le_of_ble_eq_true rfl⟩ ⟨Nat.le_of_ble_eq_true rfl, Nat.le_of_ble_eq_true rfl⟩ hl.1 rfl (Nat.le_of_ble_eq_true rfl) d1_hear_67 (fun H locs hH => ?_)
      refine W.eq (g2 := F0 m 70 ls [.int o67.1]) rfl ?_
      refine lv_iconst (v := (2 : Int32)) hx9 hb d1_hear_70 (by decide) ?_
      refine lv_icmp_ne (tgt := 82) hx9 hb d1_hear_71 (by decide) (fun hc71 => ?_) (fun hc71 => ?_)
      · have e := ce_if0 e hc71
        refine lv_iinc (v := x5 + (1 : Int32)) (lv' := [(5, .int (x5 + (1 : Int32))), (6, .int o58.1), (0, .ref (ad 65)), (1, .ref (ad k1)), (2, .ref (ad k2)), (3, .int x3)]) hx9 hb d1_hear_82 hl (k := 5) rfl rfl (by decide) rfl (fun ls hl => ?_)
        refine lv_goto (tgt := 44) hx9 hb d1_hear_85 (by decide) ?_
        exact ih (x5 + (1 : Int32)) o67.2 _ _ _ hH (lv_sub hl [2, 3, 4, 5, 0] rfl) e
      · have e := ce_if1 e hc71
        refine lv_aload_n hx9 hb d1_hear_74 rfl (lv_at hl 1 rfl) ?_
        refine lv_aload_n hx9 hb d1_hear_75 rfl (lv_at hl 2 rfl) ?_
        refine lv_iload_n hx9 hb d1_hear_76 rfl (lv_at hl 4 rfl) ?_
        refine lv_iload hx9 hb d1_hear_77 (lv_at hl 0 rfl) ?_
        obtain ⟨o79, eo79, e⟩ := ce_bd e
        refine ce_callV (As := [.ref (ad k1), .int x3, .int o58.1]) (rest := []) C (ce_sok aK aV B0) hH (c1_hearChild l D ad cA aK aV B0 C.2.2.2.2.2.2.1 F k1 x3 o58.1 hk1 o67.2 o79 eo79) lo_65.1 lo_65.2.choose_spec rfl rfl mc1_hearChild ml_1_64 mi1_hearChild ms1_hearChild mI_1 (n := 3) (by decide) rfl ⟨Nat.le_of_ble_eq_true rfl, Nat.le_of_ble_eq_true rfl⟩ ⟨Nat.le_of_ble_eq_true rfl, Nat.le_of_ble_eq_true rfl⟩ hl.1 rfl (Nat.le_of_ble_eq_true rfl) d1_hear_79 (fun H locs hH => ?_)
        refine W.eq (g2 := F0 m 82 ls []) rfl ?_
        refine lv_iinc (v := x5 + (1 : Int32)) (lv' := [(5, .int (x5 + (1 : Int32))), (6, .int o58.1), (0, .ref (ad 65)), (1, .ref (ad k1)), (2, .ref (ad k2)), (3, .int x3)]) hx9 hb d1_hear_82 hl (k := 5) rfl rfl (by decide) rfl (fun ls hl => ?_)
        refine lv_goto (tgt := 44) hx9 hb d1_hear_85 (by decide) ?_
        exact ih (x5 + (1 : Int32)) o79 _ _ _ hH (lv_sub hl [2, 3, 4, 5, 0] rfl) e
def f1_hear (F : Nat) (k1 : Nat) (k2 : Nat) (x3 : Int32) (x4 : Int32) (h : Hp) : Option (Hp) :=
  Option.bind (f11_holds F x4 x3 h) (fun o8 =>
    if o8.1 = 0 then
      if ce_in x3 10 = true then
        ce_nm (hp_up o8.2 66 (x3).toNatClampNeg (-1 : Int32)) (fun h_19 =>
          Option.bind (f11_holds F x4 x3 h_19) (fun o28 =>
            if o28.1 = 0 then
              if ce_in x3 10 = true then
                ce_nm (hp_up o28.2 67 (x3).toNatClampNeg (1000000 : Int32)) (fun h_40 =>
                  Option.bind (ce_it (fun (st : Int32 × Hp) => f1_hear_b44 F k1 k2 x3 st.1 st.2) F ((0 : Int32), h_40)) (fun o44 =>
                    some o44))
              else none
            else
              if ce_in x3 10 = true then
                ce_nm (hp_up o28.2 67 (x3).toNatClampNeg (0 : Int32)) (fun h_40 =>
                  Option.bind (ce_it (fun (st : Int32 × Hp) => f1_hear_b44 F k1 k2 x3 st.1 st.2) F ((0 : Int32), h_40)) (fun o44 =>
                    some o44))
              else none))
      else none
    else
      if ce_in x3 10 = true then
        ce_nm (hp_up o8.2 66 (x3).toNatClampNeg x3) (fun h_19 =>
          Option.bind (f11_holds F x4 x3 h_19) (fun o28 =>
            if o28.1 = 0 then
              if ce_in x3 10 = true then
                ce_nm (hp_up o28.2 67 (x3).toNatClampNeg (1000000 : Int32)) (fun h_40 =>
                  Option.bind (ce_it (fun (st : Int32 × Hp) => f1_hear_b44 F k1 k2 x3 st.1 st.2) F ((0 : Int32), h_40)) (fun o44 =>
                    some o44))
              else none
            else
              if ce_in x3 10 = true then
                ce_nm (hp_up o28.2 67 (x3).toNatClampNeg (0 : Int32)) (fun h_40 =>
                  Option.bind (ce_it (fun (st : Int32 × Hp) => f1_hear_b44 F k1 k2 x3 st.1 st.2) F ((0 : Int32), h_40)) (fun o44 =>
                    some o44))
              else none))
      else none)
set_option maxRecDepth 20000 in
theorem c1_hear (l : Launch) (D : va_G) (ad : Nat → Nat) (cA : Nat → ClassId) (aK aV : Nat → Nat) (B0 : Nat) (hA : ce_Ad ad B0) (F : Nat) (k1 : Nat) (k2 : Nat) (x3 : Int32) (x4 : Int32) (hk1 : ce_isNet k1) (hk2 : ce_isEl k2) (h : Hp) (r : Hp) (e : f1_hear F k1 k2 x3 x4 h = some r) : ce_Ct l D ad cA B0 (ce_St aK aV B0) y1_hear b1_hear 7 none 2 46 0 0 [.ref (ad 65), .ref (ad k1), .ref (ad k2), .int x3, .int x4] h none r := by
  refine ce_enter hA (by decide) rfl (Nat.le_of_ble_eq_true rfl) (fun p e0 s m below meth c ls C hH hl => ?_)
  have hl : lv_has ls 7 [(0, .ref (ad 65)), (1, .ref (ad k1)), (2, .ref (ad k2)), (3, .int x3), (4, .int x4)] := hl
  have hx := C.1
  have hb := C.2.1
  have e : Option.bind _ some = some r := (congrArg (fun z => Option.bind z some) e).trans rfl
  unfold f1_hear at e
  refine lv_aload_n hx hb d1_hear_0 rfl (lv_at hl 0 rfl) ?_
  refine gf_1_18 C hH d1_hear_1 ?_
  refine lv_iload_n hx hb d1_hear_4 rfl (lv_at hl 3 rfl) ?_
  refine lv_iload hx hb d1_hear_5 (lv_at hl 4 rfl) ?_
  refine lv_iload_n hx hb d1_hear_7 rfl (lv_at hl 3 rfl) ?_
  obtain ⟨o8, eo8, e⟩ := ce_bd e
  refine ce_callN (As := [.int x4, .int x3]) (rest := [.int x3, .ref (ad 66)]) C (ce_sok aK aV B0) hH (c11_holds l D ad cA aK aV B0 C.2.2.2.2.2.2.1 F x4 x3  h o8 eo8) mc11_holds (ce_nwW C.2.2.2.2.2.2.2.2.2.2 20 rfl) mt11_holds mI_11 (n := 2) (by decide) rfl ⟨Nat.le_of_ble_eq_true rfl, Nat.le_of_ble_eq_true rfl⟩ ⟨Nat.le_of_ble_eq_true rfl, Nat.le_of_ble_eq_true rfl⟩ hl.1 rfl (Nat.le_of_ble_eq_true rfl) d1_hear_8 (fun H locs hH => ?_)
  refine W.eq (g2 := F0 m 11 ls [.int o8.1, .int x3, .ref (ad 66)]) rfl ?_
  refine lv_if_eq (tgt := 18) hx hb d1_hear_11 (by decide) (fun hc11 => ?_) (fun hc11 => ?_)
  · have e := ce_if1 e hc11
    refine lv_iconst (v := (-1 : Int32)) hx hb d1_hear_18 (by decide) ?_
    obtain ⟨hi19, e⟩ := ce_gd e
    refine ce_iast C hH lc_66.1 lc_66.2 (ce_in_vp hi19) d1_hear_19 (fun H locs hH => ?_)
    obtain ⟨h_19, eh_19, e⟩ := ce_nmE e
    rw [← eh_19] at hH
    refine lv_aload_n hx hb d1_hear_20 rfl (lv_at hl 0 rfl) ?_
    refine gf_1_22 C hH d1_hear_21 ?_
    refine lv_iload_n hx hb d1_hear_24 rfl (lv_at hl 3 rfl) ?_
    refine lv_iload hx hb d1_hear_25 (lv_at hl 4 rfl) ?_
    refine lv_iload_n hx hb d1_hear_27 rfl (lv_at hl 3 rfl) ?_
    obtain ⟨o28, eo28, e⟩ := ce_bd e
    refine ce_callN (As := [.int x4, .int x3]) (rest := [.int x3, .ref (ad 67)]) C (ce_sok aK aV B0) hH (c11_holds l D ad cA aK aV B0 C.2.2.2.2.2.2.1 F x4 x3  h_19 o28 eo28) mc11_holds (ce_nwW C.2.2.2.2.2.2.2.2.2.2 20 rfl) mt11_holds mI_11 (n := 2) (by decide) rfl ⟨Nat.le_of_ble_eq_true rfl, Nat.le_of_ble_eq_true rfl⟩ ⟨Nat.le_of_ble_eq_true rfl, Nat.le_of_ble_eq_true rfl⟩ hl.1 rfl (Nat.le_of_ble_eq_true rfl) d1_hear_28 (fun H locs hH => ?_)
    refine W.eq (g2 := F0 m 31 ls [.int o28.1, .int x3, .ref (ad 67)]) rfl ?_
    refine lv_if_eq (tgt := 38) hx hb d1_hear_31 (by decide) (fun hc31 => ?_) (fun hc31 => ?_)
    · have e := ce_if1 e hc31
      refine lv_ldc (v := (1000000 : Int32)) hx hb C.2.2.2.1 (C.2.2.2.2.1 _ mk_1_48) d1_hear_38 ?_
      obtain ⟨hi40, e⟩ := ce_gd e
      refine ce_iast C hH lc_67.1 lc_67.2 (ce_in_vp hi40) d1_hear_40 (fun H locs hH => ?_)
      obtain ⟨h_40, eh_40, e⟩ := ce_nmE e
      rw [← eh_40] at hH
      refine lv_iconst (v := (0 : Int32)) hx hb d1_hear_41 (by decide) ?_
      refine lv_istore (lv' := [(5, .int (0 : Int32)), (0, .ref (ad 65)), (1, .ref (ad k1)), (2, .ref (ad k2)), (3, .int x3), (4, .int x4)]) hx hb d1_hear_42 hl (by decide) rfl (fun ls hl => ?_)
      refine l1_hear_44 C F k1 k2 x3 hk1 hk2 r _ (fun  h_44 H locs ls hH hl e => ?_) F (0 : Int32) h_40 _ _ _ hH (lv_sub hl [1, 2, 3, 4, 0] rfl) (ce_as e)
      try dsimp only at e
      exact ce_vret C (ce_sok aK aV B0) hH (Option.some.inj e) d1_hear_88
    · have e := ce_if0 e hc31
      refine lv_iconst (v := (0 : Int32)) hx hb d1_hear_34 (by decide) ?_
      refine lv_goto (tgt := 40) hx hb d1_hear_35 (by decide) ?_
      obtain ⟨hi40, e⟩ := ce_gd e
      refine ce_iast C hH lc_67.1 lc_67.2 (ce_in_vp hi40) d1_hear_40 (fun H locs hH => ?_)
      obtain ⟨h_40, eh_40, e⟩ := ce_nmE e
      rw [← eh_40] at hH
      refine lv_iconst (v := (0 : Int32)) hx hb d1_hear_41 (by decide) ?_
      refine lv_istore (lv' := [(5, .int (0 : Int32)), (0, .ref (ad 65)), (1, .ref (ad k1)), (2, .ref (ad k2)), (3, .int x3), (4, .int x4)]) hx hb d1_hear_42 hl (by decide) rfl (fun ls hl => ?_)
      refine l1_hear_44 C F k1 k2 x3 hk1 hk2 r _ (fun  h_44 H locs ls hH hl e => ?_) F (0 : Int32) h_40 _ _ _ hH (lv_sub hl [1, 2, 3, 4, 0] rfl) (ce_as e)
      try dsimp only at e
      exact ce_vret C (ce_sok aK aV B0) hH (Option.some.inj e) d1_hear_88
  · have e := ce_if0 e hc11
    refine lv_iload_n hx hb d1_hear_14 rfl (lv_at hl 3 rfl) ?_
    refine lv_goto (tgt := 19) hx hb d1_hear_15 (by decide) ?_
    obtain ⟨hi19, e⟩ := ce_gd e
    refine ce_iast C hH lc_66.1 lc_66.2 (ce_in_vp hi19) d1_hear_19 (fun H locs hH => ?_)
    obtain ⟨h_19, eh_19, e⟩ := ce_nmE e
    rw [← eh_19] at hH
    refine lv_aload_n hx hb d1_hear_20 rfl (lv_at hl 0 rfl) ?_
    refine gf_1_22 C hH d1_hear_21 ?_
    refine lv_iload_n hx hb d1_hear_24 rfl (lv_at hl 3 rfl) ?_
    refine lv_iload hx hb d1_hear_25 (lv_at hl 4 rfl) ?_
    refine lv_iload_n hx hb d1_hear_27 rfl (lv_at hl 3 rfl) ?_
    obtain ⟨o28, eo28, e⟩ := ce_bd e
    refine ce_callN (As := [.int x4, .int x3]) (rest := [.int x3, .ref (ad 67)]) C (ce_sok aK aV B0) hH (c11_holds l D ad cA aK aV B0 C.2.2.2.2.2.2.1 F x4 x3  h_19 o28 eo28) mc11_holds (ce_nwW C.2.2.2.2.2.2.2.2.2.2 20 rfl) mt11_holds mI_11 (n := 2) (by decide) rfl ⟨Nat.le_of_ble_eq_true rfl, Nat.le_of_ble_eq_true rfl⟩ ⟨Nat.le_of_ble_eq_true rfl, Nat.le_of_ble_eq_true rfl⟩ hl.1 rfl (Nat.le_of_ble_eq_true rfl) d1_hear_28 (fun H locs hH => ?_)
    refine W.eq (g2 := F0 m 31 ls [.int o28.1, .int x3, .ref (ad 67)]) rfl ?_
    refine lv_if_eq (tgt := 38) hx hb d1_hear_31 (by decide) (fun hc31 => ?_) (fun hc31 => ?_)
    · have e := ce_if1 e hc31
      refine lv_ldc (v := (1000000 : Int32)) hx hb C.2.2.2.1 (C.2.2.2.2.1 _ mk_1_48) d1_hear_38 ?_
      obtain ⟨hi40, e⟩ := ce_gd e
      refine ce_iast C hH lc_67.1 lc_67.2 (ce_in_vp hi40) d1_hear_40 (fun H locs hH => ?_)
      obtain ⟨h_40, eh_40, e⟩ := ce_nmE e
      rw [← eh_40] at hH
      refine lv_iconst (v := (0 : Int32)) hx hb d1_hear_41 (by decide) ?_
      refine lv_istore (lv' := [(5, .int (0 : Int32)), (0, .ref (ad 65)), (1, .ref (ad k1)), (2, .ref (ad k2)), (3, .int x3), (4, .int x4)]) hx hb d1_hear_42 hl (by decide) rfl (fun ls hl => ?_)
      refine l1_hear_44 C F k1 k2 x3 hk1 hk2 r _ (fun  h_44 H locs ls hH hl e => ?_) F (0 : Int32) h_40 _ _ _ hH (lv_sub hl [1, 2, 3, 4, 0] rfl) (ce_as e)
      try dsimp only at e
      exact ce_vret C (ce_sok aK aV B0) hH (Option.some.inj e) d1_hear_88
    · have e := ce_if0 e hc31
      refine lv_iconst (v := (0 : Int32)) hx hb d1_hear_34 (by decide) ?_
      refine lv_goto (tgt := 40) hx hb d1_hear_35 (by decide) ?_
      obtain ⟨hi40, e⟩ := ce_gd e
      refine ce_iast C hH lc_67.1 lc_67.2 (ce_in_vp hi40) d1_hear_40 (fun H locs hH => ?_)
      obtain ⟨h_40, eh_40, e⟩ := ce_nmE e
      rw [← eh_40] at hH
      refine lv_iconst (v := (0 : Int32)) hx hb d1_hear_41 (by decide) ?_
      refine lv_istore (lv' := [(5, .int (0 : Int32)), (0, .ref (ad 65)), (1, .ref (ad k1)), (2, .ref (ad k2)), (3, .int x3), (4, .int x4)]) hx hb d1_hear_42 hl (by decide) rfl (fun ls hl => ?_)
      refine l1_hear_44 C F k1 k2 x3 hk1 hk2 r _ (fun  h_44 H locs ls hH hl e => ?_) F (0 : Int32) h_40 _ _ _ hH (lv_sub hl [1, 2, 3, 4, 0] rfl) (ce_as e)
      try dsimp only at e
      exact ce_vret C (ce_sok aK aV B0) hH (Option.some.inj e) d1_hear_88
abbrev b1_ask : ByteArray := prog_3_method_2_code
def y1_ask : MethodName := ⟨cn_1, "ask", "(LCableElection$Net;LCableElection$Election;LCableElection$Naming;LCableElection$Buses;I)V"⟩
theorem d1_ask_0 : decode b1_ask 0 = .ok (.iload 5, 2) := by decide +kernel
theorem d1_ask_2 : decode b1_ask 2 = .ok (.invokestatic 25, 3) := by decide +kernel
theorem d1_ask_5 : decode b1_ask 5 = .ok (.istore 6, 2) := by decide +kernel
theorem d1_ask_7 : decode b1_ask 7 = .ok (.aload 4, 2) := by decide +kernel
theorem d1_ask_9 : decode b1_ask 9 = .ok (.iload 6, 2) := by decide +kernel
theorem d1_ask_11 : decode b1_ask 11 = .ok (.invokevirtual 29, 3) := by decide +kernel
theorem d1_ask_14 : decode b1_ask 14 = .ok (.istore 7, 2) := by decide +kernel
theorem d1_ask_16 : decode b1_ask 16 = .ok (.aload_n 0, 1) := by decide +kernel
theorem d1_ask_17 : decode b1_ask 17 = .ok (.iconst (-1), 1) := by decide +kernel
theorem d1_ask_18 : decode b1_ask 18 = .ok (.putfield 9, 3) := by decide +kernel
theorem d1_ask_21 : decode b1_ask 21 = .ok (.iconst 0, 1) := by decide +kernel
theorem d1_ask_22 : decode b1_ask 22 = .ok (.istore 8, 2) := by decide +kernel
theorem d1_ask_24 : decode b1_ask 24 = .ok (.iload 8, 2) := by decide +kernel
theorem d1_ask_26 : decode b1_ask 26 = .ok (.iload 7, 2) := by decide +kernel
theorem d1_ask_28 : decode b1_ask 28 = .ok (.if_icmp .ge 61, 3) := by decide +kernel
theorem d1_ask_31 : decode b1_ask 31 = .ok (.aload_n 3, 1) := by decide +kernel
theorem d1_ask_32 : decode b1_ask 32 = .ok (.aload 4, 2) := by decide +kernel
theorem d1_ask_34 : decode b1_ask 34 = .ok (.iload 6, 2) := by decide +kernel
theorem d1_ask_36 : decode b1_ask 36 = .ok (.iload 8, 2) := by decide +kernel
theorem d1_ask_38 : decode b1_ask 38 = .ok (.invokevirtual 34, 3) := by decide +kernel
theorem d1_ask_41 : decode b1_ask 41 = .ok (.istore 9, 2) := by decide +kernel
theorem d1_ask_43 : decode b1_ask 43 = .ok (.iload 9, 2) := by decide +kernel
theorem d1_ask_45 : decode b1_ask 45 = .ok (.iconst (-1), 1) := by decide +kernel
theorem d1_ask_46 : decode b1_ask 46 = .ok (.if_icmp .eq 37, 3) := by decide +kernel
theorem d1_ask_49 : decode b1_ask 49 = .ok (.aload_n 0, 1) := by decide +kernel
theorem d1_ask_50 : decode b1_ask 50 = .ok (.aload_n 1, 1) := by decide +kernel
theorem d1_ask_51 : decode b1_ask 51 = .ok (.aload_n 2, 1) := by decide +kernel
theorem d1_ask_52 : decode b1_ask 52 = .ok (.iload 9, 2) := by decide +kernel
theorem d1_ask_54 : decode b1_ask 54 = .ok (.iload 5, 2) := by decide +kernel
theorem d1_ask_56 : decode b1_ask 56 = .ok (.invokevirtual 40, 3) := by decide +kernel
theorem d1_ask_59 : decode b1_ask 59 = .ok (.aload_n 0, 1) := by decide +kernel
theorem d1_ask_60 : decode b1_ask 60 = .ok (.aload_n 0, 1) := by decide +kernel
theorem d1_ask_61 : decode b1_ask 61 = .ok (.getfield 18, 3) := by decide +kernel
theorem d1_ask_64 : decode b1_ask 64 = .ok (.iload 9, 2) := by decide +kernel
theorem d1_ask_66 : decode b1_ask 66 = .ok (.iaload, 1) := by decide +kernel
theorem d1_ask_67 : decode b1_ask 67 = .ok (.putfield 9, 3) := by decide +kernel
theorem d1_ask_70 : decode b1_ask 70 = .ok (.aload_n 0, 1) := by decide +kernel
theorem d1_ask_71 : decode b1_ask 71 = .ok (.iconst 2, 1) := by decide +kernel
theorem d1_ask_72 : decode b1_ask 72 = .ok (.aload_n 0, 1) := by decide +kernel
theorem d1_ask_73 : decode b1_ask 73 = .ok (.getfield 22, 3) := by decide +kernel
theorem d1_ask_76 : decode b1_ask 76 = .ok (.iload 9, 2) := by decide +kernel
theorem d1_ask_78 : decode b1_ask 78 = .ok (.iaload, 1) := by decide +kernel
theorem d1_ask_79 : decode b1_ask 79 = .ok (.imul, 1) := by decide +kernel
theorem d1_ask_80 : decode b1_ask 80 = .ok (.putfield 15, 3) := by decide +kernel
theorem d1_ask_83 : decode b1_ask 83 = .ok (.iinc 8 1, 3) := by decide +kernel
theorem d1_ask_86 : decode b1_ask 86 = .ok (.goto (-62), 3) := by decide +kernel
theorem d1_ask_89 : decode b1_ask 89 = .ok (.return_, 1) := by decide +kernel
theorem fl_1_9 : Cond.fieldLink cn_1 9 (ft_1 0).1 (ft_1 0).2.1 (ft_1 0).2.2.1 ∈ ce_cm := ce_cm_of (List.mem_of_getElem? (i := 422) (by decide +kernel)) (by decide +kernel)
theorem gf_1_9 (C : ce_Cx p s m args c meth cc nL ret cn_1 D ad cA B0 (ce_St aK aV B0)) (hH : ce_H D ad cA B0 X s h H locs) (hdg : decode cc pc = .ok (.getfield 9, 3)) (kk : W p l e0 R s m args below meth c H locs cells slots Q (F0 m (pc + 3) ls (.int (h 65 0) :: rest))) : W p l e0 R s m args below meth c H locs cells slots Q (F0 m pc ls (.ref (ad 65) :: rest)) := by
  exact ce_get C hH (k := 65) (ci := 1) (j := 0) (N := 4) (sj := none) (by decide) rfl rfl fw_1 (by decide) fl_1_9 rfl hdg kk
theorem pf_1_9 (C : ce_Cx p s m args c meth cc nL ret cn_1 D ad cA B0 (ce_St aK aV B0)) (hH : ce_H D ad cA B0 X s h H locs) {x : Int32} (hdg : decode cc pc = .ok (.putfield 9, 3)) (kk : ∀ (H1 : Heap) (locs1 : List Loc), ce_H D ad cA B0 X s (hp_up h 65 0 x) H1 locs1 → W p l e0 R s m args below meth c H1 locs1 cells slots Q (F0 m (pc + 3) ls rest)) : W p l e0 R s m args below meth c H locs cells slots Q (F0 m pc ls (.int x :: .ref (ad 65) :: rest)) := by
  exact ce_put C hH (k := 65) (ci := 1) (j := 0) (N := 4) (fy := fy_1) (sj := none) x (by decide) rfl rfl fw_1 fo_1 fn_1 (by decide) fl_1_9 rfl rfl (v := .int x) (by simp [ce_slot, upd]) rfl rfl hdg kk
theorem fl_1_15 : Cond.fieldLink cn_1 15 (ft_1 1).1 (ft_1 1).2.1 (ft_1 1).2.2.1 ∈ ce_cm := ce_cm_of (List.mem_of_getElem? (i := 424) (by decide +kernel)) (by decide +kernel)
theorem gf_1_15 (C : ce_Cx p s m args c meth cc nL ret cn_1 D ad cA B0 (ce_St aK aV B0)) (hH : ce_H D ad cA B0 X s h H locs) (hdg : decode cc pc = .ok (.getfield 15, 3)) (kk : W p l e0 R s m args below meth c H locs cells slots Q (F0 m (pc + 3) ls (.int (h 65 1) :: rest))) : W p l e0 R s m args below meth c H locs cells slots Q (F0 m pc ls (.ref (ad 65) :: rest)) := by
  exact ce_get C hH (k := 65) (ci := 1) (j := 1) (N := 4) (sj := none) (by decide) rfl rfl fw_1 (by decide) fl_1_15 rfl hdg kk
theorem pf_1_15 (C : ce_Cx p s m args c meth cc nL ret cn_1 D ad cA B0 (ce_St aK aV B0)) (hH : ce_H D ad cA B0 X s h H locs) {x : Int32} (hdg : decode cc pc = .ok (.putfield 15, 3)) (kk : ∀ (H1 : Heap) (locs1 : List Loc), ce_H D ad cA B0 X s (hp_up h 65 1 x) H1 locs1 → W p l e0 R s m args below meth c H1 locs1 cells slots Q (F0 m (pc + 3) ls rest)) : W p l e0 R s m args below meth c H locs cells slots Q (F0 m pc ls (.int x :: .ref (ad 65) :: rest)) := by
  exact ce_put C hH (k := 65) (ci := 1) (j := 1) (N := 4) (fy := fy_1) (sj := none) x (by decide) rfl rfl fw_1 fo_1 fn_1 (by decide) fl_1_15 rfl rfl (v := .int x) (by simp [ce_slot, upd]) rfl rfl hdg kk
theorem mc1_hear : Cond.code y1_hear b1_hear 7 none ∈ ce_cm := ce_cm_of (List.mem_of_getElem? (i := 1025) (by decide +kernel)) (by decide +kernel)
theorem ml_1_40 : Cond.methodLink cn_1 40 y1_hear ∈ ce_cm := ce_cm_of (List.mem_of_getElem? (i := 1022) (by decide +kernel)) (by decide +kernel)
theorem mi1_hear : Cond.instanceMethod y1_hear ∈ ce_cm := ce_cm_of (List.mem_of_getElem? (i := 1024) (by decide +kernel)) (by decide +kernel)
theorem ms1_hear : Cond.selects cn_1 y1_hear y1_hear ∈ ce_cm := ce_cm_of (List.mem_of_getElem? (i := 28) (by decide +kernel)) (by decide +kernel)
theorem mc4_nodeWith : Cond.code y4_nodeWith b4_nodeWith 4 (some .int) ∈ ce_cm := ce_cm_of (List.mem_of_getElem? (i := 872) (by decide +kernel)) (by decide +kernel)
theorem ml_1_34 : Cond.methodLink cn_1 34 y4_nodeWith ∈ ce_cm := ce_cm_of (List.mem_of_getElem? (i := 1021) (by decide +kernel)) (by decide +kernel)
theorem mi4_nodeWith : Cond.instanceMethod y4_nodeWith ∈ ce_cm := ce_cm_of (List.mem_of_getElem? (i := 870) (by decide +kernel)) (by decide +kernel)
theorem ms4_nodeWith : Cond.selects cn_4 y4_nodeWith y4_nodeWith ∈ ce_cm := ce_cm_of (List.mem_of_getElem? (i := 871) (by decide +kernel)) (by decide +kernel)
theorem ml_1_29 : Cond.methodLink cn_1 29 y2_nodesIn ∈ ce_cm := ce_cm_of (List.mem_of_getElem? (i := 1020) (by decide +kernel)) (by decide +kernel)
theorem mc11_leastIn : Cond.code y11_leastIn b11_leastIn 2 (some .int) ∈ ce_cm := ce_cm_of (List.mem_of_getElem? (i := 1011) (by decide +kernel)) (by decide +kernel)
theorem mt11_leastIn : Cond.static y11_leastIn ∈ ce_cm := ce_cm_of (List.mem_of_getElem? (i := 1010) (by decide +kernel)) (by decide +kernel)
def f1_ask_b24 (F : Nat) (k1 : Nat) (k2 : Nat) (x5 : Int32) (x6 : Int32) (x7 : Int32) (x8 : Int32) (h : Hp) : Option ((Int32 × Hp) ⊕ (Hp)) :=
  if x7 ≤ x8 then
    some (.inr h)
  else
    Option.bind (f4_nodeWith F x6 x8 h) (fun o38 =>
      if o38.1 = (-1 : Int32) then
        some (.inl (x8 + (1 : Int32), o38.2))
      else
        Option.bind (f1_hear F k1 k2 o38.1 x5 o38.2) (fun o56 =>
          if ce_in o38.1 10 = true then
            ce_nm (hp_up o56 65 0 (o56 66 (o38.1).toNatClampNeg)) (fun h_67 =>
              if ce_in o38.1 10 = true then
                ce_nm (hp_up h_67 65 1 ((2 : Int32) * (h_67 67 (o38.1).toNatClampNeg))) (fun h_80 =>
                  some (.inl (x8 + (1 : Int32), h_80)))
              else none)
          else none))
set_option maxRecDepth 20000 in
theorem l1_ask_24 (C : ce_Cx p s m args c meth b1_ask 10 none cn_1 D ad cA B0 (ce_St aK aV B0)) (F : Nat) (k1 : Nat) (k2 : Nat) (x5 : Int32) (x6 : Int32) (x7 : Int32) (hk1 : ce_isNet k1) (hk2 : ce_isEl k2) (r : Hp) (g : (Hp) → Option (Hp)) (hx : ∀  (h : Hp) (H : Heap) (locs : List Loc) (ls : Array Slot), ce_H D ad cA B0 [] s h H locs → lv_has ls 10 [] → g h = some r → W p l e0 { frames := 3, cells := 0, slots := 0, locals := 72 } s m args below meth c H locs 0 0 (MQ below (ce_Q D ad cA B0 (ce_St aK aV B0) none r) args s 0 0 (fun q => B0 ≤ q)) (F0 m 89 ls [])) : ∀ (n : Nat) (x8 : Int32) (h : Hp) (H : Heap) (locs : List Loc) (ls : Array Slot), ce_H D ad cA B0 [] s h H locs → lv_has ls 10 [(0, .ref (ad 65)), (1, .ref (ad k1)), (2, .ref (ad k2)), (3, .ref (ad 62)), (4, .ref (ad 44)), (5, .int x5), (6, .int x6), (7, .int x7), (8, .int x8)] → Option.bind (ce_it (fun (st : Int32 × Hp) => f1_ask_b24 F k1 k2 x5 x6 x7 st.1 st.2) n (x8, h)) g = some r → W p l e0 { frames := 3, cells := 0, slots := 0, locals := 72 } s m args below meth c H locs 0 0 (MQ below (ce_Q D ad cA B0 (ce_St aK aV B0) none r) args s 0 0 (fun q => B0 ≤ q)) (F0 m 24 ls []) := by
  intro n
  induction n with
  | zero =>
    intro x8 h H locs ls hH hl e
    exact absurd e (fun z => by cases z)
  | succ n ih =>
    intro x8 h H locs ls hH hl e
    have hx9 := C.1
    have hb := C.2.1
    have e : Option.bind (f1_ask_b24 F k1 k2 x5 x6 x7 x8 h) _ = some r := ce_it_bd e
    unfold f1_ask_b24 at e
    refine lv_iload hx9 hb d1_ask_24 (lv_at hl 8 rfl) ?_
    refine lv_iload hx9 hb d1_ask_26 (lv_at hl 7 rfl) ?_
    refine lv_icmp_ge (tgt := 89) hx9 hb d1_ask_28 (by decide) (fun hc28 => ?_) (fun hc28 => ?_)
    · have e := ce_if1 e hc28
      exact hx  h _ _ _ hH (lv_sub hl [] rfl) e
    · have e := ce_if0 e hc28
      refine lv_aload_n hx9 hb d1_ask_31 rfl (lv_at hl 3 rfl) ?_
      refine lv_aload hx9 hb d1_ask_32 (lv_at hl 4 rfl) ?_
      refine lv_iload hx9 hb d1_ask_34 (lv_at hl 6 rfl) ?_
      refine lv_iload hx9 hb d1_ask_36 (lv_at hl 8 rfl) ?_
      obtain ⟨o38, eo38, e⟩ := ce_bd e
      refine ce_callV (As := [.ref (ad 44), .int x6, .int x8]) (rest := []) C (ce_sok aK aV B0) hH (c4_nodeWith l D ad cA aK aV B0 C.2.2.2.2.2.2.1 F x6 x8  h o38 eo38) lo_62.1 lo_62.2.choose_spec rfl rfl mc4_nodeWith ml_1_34 mi4_nodeWith ms4_nodeWith mI_4 (n := 3) (by decide) rfl ⟨Nat.le_of_ble_eq_true rfl, Nat.le_of_ble_eq_true rfl⟩ ⟨Nat.le_of_ble_eq_true rfl, Nat.le_of_ble_eq_true rfl⟩ hl.1 rfl (Nat.le_of_ble_eq_true rfl) d1_ask_38 (fun H locs hH => ?_)
      refine W.eq (g2 := F0 m 41 ls [.int o38.1]) rfl ?_
      refine lv_istore (lv' := [(9, .int o38.1), (0, .ref (ad 65)), (1, .ref (ad k1)), (2, .ref (ad k2)), (3, .ref (ad 62)), (4, .ref (ad 44)), (5, .int x5), (6, .int x6), (7, .int x7), (8, .int x8)]) hx9 hb d1_ask_41 hl (by decide) rfl (fun ls hl => ?_)
      refine lv_iload hx9 hb d1_ask_43 (lv_at hl 0 rfl) ?_
      refine lv_iconst (v := (-1 : Int32)) hx9 hb d1_ask_45 (by decide) ?_
      refine lv_icmp_eq (tgt := 83) hx9 hb d1_ask_46 (by decide) (fun hc46 => ?_) (fun hc46 => ?_)
      · have e := ce_if1 e hc46
        refine lv_iinc (v := x8 + (1 : Int32)) (lv' := [(8, .int (x8 + (1 : Int32))), (9, .int o38.1), (0, .ref (ad 65)), (1, .ref (ad k1)), (2, .ref (ad k2)), (3, .ref (ad 62)), (4, .ref (ad 44)), (5, .int x5), (6, .int x6), (7, .int x7)]) hx9 hb d1_ask_83 hl (k := 9) rfl rfl (by decide) rfl (fun ls hl => ?_)
        refine lv_goto (tgt := 24) hx9 hb d1_ask_86 (by decide) ?_
        exact ih (x8 + (1 : Int32)) o38.2 _ _ _ hH (lv_sub hl [2, 3, 4, 5, 6, 7, 8, 9, 0] rfl) e
      · have e := ce_if0 e hc46
        refine lv_aload_n hx9 hb d1_ask_49 rfl (lv_at hl 1 rfl) ?_
        refine lv_aload_n hx9 hb d1_ask_50 rfl (lv_at hl 2 rfl) ?_
        refine lv_aload_n hx9 hb d1_ask_51 rfl (lv_at hl 3 rfl) ?_
        refine lv_iload hx9 hb d1_ask_52 (lv_at hl 0 rfl) ?_
        refine lv_iload hx9 hb d1_ask_54 (lv_at hl 6 rfl) ?_
        obtain ⟨o56, eo56, e⟩ := ce_bd e
        refine ce_callV (As := [.ref (ad k1), .ref (ad k2), .int o38.1, .int x5]) (rest := []) C (ce_sok aK aV B0) hH (c1_hear l D ad cA aK aV B0 C.2.2.2.2.2.2.1 F k1 k2 o38.1 x5 hk1 hk2 o38.2 o56 eo56) lo_65.1 lo_65.2.choose_spec rfl rfl mc1_hear ml_1_40 mi1_hear ms1_hear mI_1 (n := 4) (by decide) rfl ⟨Nat.le_of_ble_eq_true rfl, Nat.le_of_ble_eq_true rfl⟩ ⟨Nat.le_of_ble_eq_true rfl, Nat.le_of_ble_eq_true rfl⟩ hl.1 rfl (Nat.le_of_ble_eq_true rfl) d1_ask_56 (fun H locs hH => ?_)
        refine W.eq (g2 := F0 m 59 ls []) rfl ?_
        refine lv_aload_n hx9 hb d1_ask_59 rfl (lv_at hl 1 rfl) ?_
        refine lv_aload_n hx9 hb d1_ask_60 rfl (lv_at hl 1 rfl) ?_
        refine gf_1_18 C hH d1_ask_61 ?_
        refine lv_iload hx9 hb d1_ask_64 (lv_at hl 0 rfl) ?_
        obtain ⟨hi66, e⟩ := ce_gd e
        refine ce_iald C hH lc_66.1 lc_66.2 (ce_in_vp hi66) d1_ask_66 ?_
        refine pf_1_9 C hH d1_ask_67 (fun H locs hH => ?_)
        obtain ⟨h_67, eh_67, e⟩ := ce_nmE e
        rw [← eh_67] at hH
        refine lv_aload_n hx9 hb d1_ask_70 rfl (lv_at hl 1 rfl) ?_
        refine lv_iconst (v := (2 : Int32)) hx9 hb d1_ask_71 (by decide) ?_
        refine lv_aload_n hx9 hb d1_ask_72 rfl (lv_at hl 1 rfl) ?_
        refine gf_1_22 C hH d1_ask_73 ?_
        refine lv_iload hx9 hb d1_ask_76 (lv_at hl 0 rfl) ?_
        obtain ⟨hi78, e⟩ := ce_gd e
        refine ce_iald C hH lc_67.1 lc_67.2 (ce_in_vp hi78) d1_ask_78 ?_
        refine lv_imul hx9 hb d1_ask_79 ?_
        refine pf_1_15 C hH d1_ask_80 (fun H locs hH => ?_)
        obtain ⟨h_80, eh_80, e⟩ := ce_nmE e
        rw [← eh_80] at hH
        refine lv_iinc (v := x8 + (1 : Int32)) (lv' := [(8, .int (x8 + (1 : Int32))), (9, .int o38.1), (0, .ref (ad 65)), (1, .ref (ad k1)), (2, .ref (ad k2)), (3, .ref (ad 62)), (4, .ref (ad 44)), (5, .int x5), (6, .int x6), (7, .int x7)]) hx9 hb d1_ask_83 hl (k := 9) rfl rfl (by decide) rfl (fun ls hl => ?_)
        refine lv_goto (tgt := 24) hx9 hb d1_ask_86 (by decide) ?_
        exact ih (x8 + (1 : Int32)) h_80 _ _ _ hH (lv_sub hl [2, 3, 4, 5, 6, 7, 8, 9, 0] rfl) e
def f1_ask (F : Nat) (k1 : Nat) (k2 : Nat) (x5 : Int32) (h : Hp) : Option (Hp) :=
  Option.bind (f11_leastIn F x5 h) (fun o2 =>
    Option.bind (f2_nodesIn F o2.1 o2.2) (fun o11 =>
      ce_nm (hp_up o11.2 65 0 (-1 : Int32)) (fun h_18 =>
        Option.bind (ce_it (fun (st : Int32 × Hp) => f1_ask_b24 F k1 k2 x5 o2.1 o11.1 st.1 st.2) F ((0 : Int32), h_18)) (fun o24 =>
          some o24))))
set_option maxRecDepth 20000 in
theorem c1_ask (l : Launch) (D : va_G) (ad : Nat → Nat) (cA : Nat → ClassId) (aK aV : Nat → Nat) (B0 : Nat) (hA : ce_Ad ad B0) (F : Nat) (k1 : Nat) (k2 : Nat) (x5 : Int32) (hk1 : ce_isNet k1) (hk2 : ce_isEl k2) (h : Hp) (r : Hp) (e : f1_ask F k1 k2 x5 h = some r) : ce_Ct l D ad cA B0 (ce_St aK aV B0) y1_ask b1_ask 10 none 3 72 0 0 [.ref (ad 65), .ref (ad k1), .ref (ad k2), .ref (ad 62), .ref (ad 44), .int x5] h none r := by
  refine ce_enter hA (by decide) rfl (Nat.le_of_ble_eq_true rfl) (fun p e0 s m below meth c ls C hH hl => ?_)
  have hl : lv_has ls 10 [(0, .ref (ad 65)), (1, .ref (ad k1)), (2, .ref (ad k2)), (3, .ref (ad 62)), (4, .ref (ad 44)), (5, .int x5)] := hl
  have hx := C.1
  have hb := C.2.1
  have e : Option.bind _ some = some r := (congrArg (fun z => Option.bind z some) e).trans rfl
  unfold f1_ask at e
  refine lv_iload hx hb d1_ask_0 (lv_at hl 5 rfl) ?_
  obtain ⟨o2, eo2, e⟩ := ce_bd e
  refine ce_callN (As := [.int x5]) (rest := []) C (ce_sok aK aV B0) hH (c11_leastIn l D ad cA aK aV B0 C.2.2.2.2.2.2.1 F x5  h o2 eo2) mc11_leastIn (ce_nwW C.2.2.2.2.2.2.2.2.2.2 19 rfl) mt11_leastIn mI_11 (n := 1) (by decide) rfl ⟨Nat.le_of_ble_eq_true rfl, Nat.le_of_ble_eq_true rfl⟩ ⟨Nat.le_of_ble_eq_true rfl, Nat.le_of_ble_eq_true rfl⟩ hl.1 rfl (Nat.le_of_ble_eq_true rfl) d1_ask_2 (fun H locs hH => ?_)
  refine W.eq (g2 := F0 m 5 ls [.int o2.1]) rfl ?_
  refine lv_istore (lv' := [(6, .int o2.1), (0, .ref (ad 65)), (1, .ref (ad k1)), (2, .ref (ad k2)), (3, .ref (ad 62)), (4, .ref (ad 44)), (5, .int x5)]) hx hb d1_ask_5 hl (by decide) rfl (fun ls hl => ?_)
  refine lv_aload hx hb d1_ask_7 (lv_at hl 5 rfl) ?_
  refine lv_iload hx hb d1_ask_9 (lv_at hl 0 rfl) ?_
  obtain ⟨o11, eo11, e⟩ := ce_bd e
  refine ce_callV (As := [.int o2.1]) (rest := []) C (ce_sok aK aV B0) hH (c2_nodesIn l D ad cA aK aV B0 C.2.2.2.2.2.2.1 F o2.1  o2.2 o11 eo11) lo_44.1 lo_44.2.choose_spec rfl rfl mc2_nodesIn ml_1_29 mi2_nodesIn ms2_nodesIn mI_2 (n := 1) (by decide) rfl ⟨Nat.le_of_ble_eq_true rfl, Nat.le_of_ble_eq_true rfl⟩ ⟨Nat.le_of_ble_eq_true rfl, Nat.le_of_ble_eq_true rfl⟩ hl.1 rfl (Nat.le_of_ble_eq_true rfl) d1_ask_11 (fun H locs hH => ?_)
  refine W.eq (g2 := F0 m 14 ls [.int o11.1]) rfl ?_
  refine lv_istore (lv' := [(7, .int o11.1), (6, .int o2.1), (0, .ref (ad 65)), (1, .ref (ad k1)), (2, .ref (ad k2)), (3, .ref (ad 62)), (4, .ref (ad 44)), (5, .int x5)]) hx hb d1_ask_14 hl (by decide) rfl (fun ls hl => ?_)
  refine lv_aload_n hx hb d1_ask_16 rfl (lv_at hl 2 rfl) ?_
  refine lv_iconst (v := (-1 : Int32)) hx hb d1_ask_17 (by decide) ?_
  refine pf_1_9 C hH d1_ask_18 (fun H locs hH => ?_)
  obtain ⟨h_18, eh_18, e⟩ := ce_nmE e
  rw [← eh_18] at hH
  refine lv_iconst (v := (0 : Int32)) hx hb d1_ask_21 (by decide) ?_
  refine lv_istore (lv' := [(8, .int (0 : Int32)), (7, .int o11.1), (6, .int o2.1), (0, .ref (ad 65)), (1, .ref (ad k1)), (2, .ref (ad k2)), (3, .ref (ad 62)), (4, .ref (ad 44)), (5, .int x5)]) hx hb d1_ask_22 hl (by decide) rfl (fun ls hl => ?_)
  refine l1_ask_24 C F k1 k2 x5 o2.1 o11.1 hk1 hk2 r _ (fun  h_24 H locs ls hH hl e => ?_) F (0 : Int32) h_18 _ _ _ hH (lv_sub hl [3, 4, 5, 6, 7, 8, 2, 1, 0] rfl) (ce_as e)
  try dsimp only at e
  exact ce_vret C (ce_sok aK aV B0) hH (Option.some.inj e) d1_ask_89
abbrev b9_letterOfSign : ByteArray := prog_11_method_6_code
def y9_letterOfSign : MethodName := ⟨cn_9, "letterOfSign", "(I)I"⟩
theorem d9_letterOfSign_0 : decode b9_letterOfSign 0 = .ok (.iload_n 0, 1) := by decide +kernel
theorem d9_letterOfSign_1 : decode b9_letterOfSign 1 = .ok (.lookupswitch 41 #[(99, 39), (110, 35), (112, 37)], 35) := by decide +kernel
theorem d9_letterOfSign_36 : decode b9_letterOfSign 36 = .ok (.iconst 0, 1) := by decide +kernel
theorem d9_letterOfSign_37 : decode b9_letterOfSign 37 = .ok (.ireturn, 1) := by decide +kernel
theorem d9_letterOfSign_38 : decode b9_letterOfSign 38 = .ok (.iconst 1, 1) := by decide +kernel
theorem d9_letterOfSign_39 : decode b9_letterOfSign 39 = .ok (.ireturn, 1) := by decide +kernel
theorem d9_letterOfSign_40 : decode b9_letterOfSign 40 = .ok (.iconst 2, 1) := by decide +kernel
theorem d9_letterOfSign_41 : decode b9_letterOfSign 41 = .ok (.ireturn, 1) := by decide +kernel
theorem d9_letterOfSign_42 : decode b9_letterOfSign 42 = .ok (.iconst (-1), 1) := by decide +kernel
theorem d9_letterOfSign_43 : decode b9_letterOfSign 43 = .ok (.ireturn, 1) := by decide +kernel
def f9_letterOfSign (F : Nat) (x0 : Int32) (h : Hp) : Option (Int32 × Hp) :=
  if x0 = (99 : Int32) then
    some ((2 : Int32), h)
  else
    if x0 = (110 : Int32) then
      some ((0 : Int32), h)
    else
      if x0 = (112 : Int32) then
        some ((1 : Int32), h)
      else
        some ((-1 : Int32), h)
set_option maxRecDepth 20000 in
theorem c9_letterOfSign (l : Launch) (D : va_G) (ad : Nat → Nat) (cA : Nat → ClassId) (aK aV : Nat → Nat) (B0 : Nat) (hA : ce_Ad ad B0) (F : Nat) (x0 : Int32)  (h : Hp) (r : Int32 × Hp) (e : f9_letterOfSign F x0 h = some r) : ce_Ct l D ad cA B0 (ce_St aK aV B0) y9_letterOfSign b9_letterOfSign 1 (some .int) 0 0 0 0 [.int x0] h (some (.int r.1)) r.2 := by
  refine ce_enter hA (by decide) rfl (Nat.le_of_ble_eq_true rfl) (fun p e0 s m below meth c ls C hH hl => ?_)
  have hl : lv_has ls 1 [(0, .int x0)] := hl
  have hx := C.1
  have hb := C.2.1
  have e : Option.bind _ some = some r := (congrArg (fun z => Option.bind z some) e).trans rfl
  unfold f9_letterOfSign at e
  refine lv_iload_n hx hb d9_letterOfSign_0 rfl (lv_at hl 0 rfl) ?_
  by_cases hc1_99 : x0 = (99 : Int32)
  · have e := ce_if1 e hc1_99
    refine lv_lookup (off := 39) (tgt := 40) hx hb d9_letterOfSign_1 (by decide) (by rw [hc1_99]; decide) (by decide) ?_
    refine lv_iconst (v := (2 : Int32)) hx hb d9_letterOfSign_40 (by decide) ?_
    exact ce_iretE C (ce_sok aK aV B0) hH e d9_letterOfSign_41
  · have e := ce_if0 e hc1_99
    by_cases hc1_110 : x0 = (110 : Int32)
    · have e := ce_if1 e hc1_110
      refine lv_lookup (off := 35) (tgt := 36) hx hb d9_letterOfSign_1 (by decide) (by rw [hc1_110]; decide) (by decide) ?_
      refine lv_iconst (v := (0 : Int32)) hx hb d9_letterOfSign_36 (by decide) ?_
      exact ce_iretE C (ce_sok aK aV B0) hH e d9_letterOfSign_37
    · have e := ce_if0 e hc1_110
      by_cases hc1_112 : x0 = (112 : Int32)
      · have e := ce_if1 e hc1_112
        refine lv_lookup (off := 37) (tgt := 38) hx hb d9_letterOfSign_1 (by decide) (by rw [hc1_112]; decide) (by decide) ?_
        refine lv_iconst (v := (1 : Int32)) hx hb d9_letterOfSign_38 (by decide) ?_
        exact ce_iretE C (ce_sok aK aV B0) hH e d9_letterOfSign_39
      · have e := ce_if0 e hc1_112
        refine lv_lookup (off := 41) (tgt := 42) hx hb d9_letterOfSign_1 (by decide) (by simp [Op.lookupswitch.offset]; rw [if_neg (fun q => hc1_99 (Int32.toInt_inj.mp (q.symm.trans (by decide))) : ¬ (99 : Int) = (x0).toInt), if_neg (fun q => hc1_110 (Int32.toInt_inj.mp (q.symm.trans (by decide))) : ¬ (110 : Int) = (x0).toInt), if_neg (fun q => hc1_112 (Int32.toInt_inj.mp (q.symm.trans (by decide))) : ¬ (112 : Int) = (x0).toInt)]) (by decide) ?_
        refine lv_iconst (v := (-1 : Int32)) hx hb d9_letterOfSign_42 (by decide) ?_
        exact ce_iretE C (ce_sok aK aV B0) hH e d9_letterOfSign_43
abbrev b9_lettersHere : ByteArray := prog_11_method_5_code
def y9_lettersHere : MethodName := ⟨cn_9, "lettersHere", "(LCableElection$Reading;I)I"⟩
theorem d9_lettersHere_0 : decode b9_lettersHere 0 = .ok (.iconst 0, 1) := by decide +kernel
theorem d9_lettersHere_1 : decode b9_lettersHere 1 = .ok (.istore_n 2, 1) := by decide +kernel
theorem d9_lettersHere_2 : decode b9_lettersHere 2 = .ok (.aload_n 0, 1) := by decide +kernel
theorem d9_lettersHere_3 : decode b9_lettersHere 3 = .ok (.getfield 78, 3) := by decide +kernel
theorem d9_lettersHere_6 : decode b9_lettersHere 6 = .ok (.istore_n 3, 1) := by decide +kernel
theorem d9_lettersHere_7 : decode b9_lettersHere 7 = .ok (.iload_n 3, 1) := by decide +kernel
theorem d9_lettersHere_8 : decode b9_lettersHere 8 = .ok (.aload_n 0, 1) := by decide +kernel
theorem d9_lettersHere_9 : decode b9_lettersHere 9 = .ok (.getfield 75, 3) := by decide +kernel
theorem d9_lettersHere_12 : decode b9_lettersHere 12 = .ok (.if_icmp .ge 27, 3) := by decide +kernel
theorem d9_lettersHere_15 : decode b9_lettersHere 15 = .ok (.aload_n 0, 1) := by decide +kernel
theorem d9_lettersHere_16 : decode b9_lettersHere 16 = .ok (.getfield 84, 3) := by decide +kernel
theorem d9_lettersHere_19 : decode b9_lettersHere 19 = .ok (.iload_n 3, 1) := by decide +kernel
theorem d9_lettersHere_20 : decode b9_lettersHere 20 = .ok (.invokevirtual 88, 3) := by decide +kernel
theorem d9_lettersHere_23 : decode b9_lettersHere 23 = .ok (.invokestatic 94, 3) := by decide +kernel
theorem d9_lettersHere_26 : decode b9_lettersHere 26 = .ok (.iload_n 1, 1) := by decide +kernel
theorem d9_lettersHere_27 : decode b9_lettersHere 27 = .ok (.if_icmp .ne 6, 3) := by decide +kernel
theorem d9_lettersHere_30 : decode b9_lettersHere 30 = .ok (.iinc 2 1, 3) := by decide +kernel
theorem d9_lettersHere_33 : decode b9_lettersHere 33 = .ok (.iinc 3 1, 3) := by decide +kernel
theorem d9_lettersHere_36 : decode b9_lettersHere 36 = .ok (.goto (-29), 3) := by decide +kernel
theorem d9_lettersHere_39 : decode b9_lettersHere 39 = .ok (.iload_n 2, 1) := by decide +kernel
theorem d9_lettersHere_40 : decode b9_lettersHere 40 = .ok (.ireturn, 1) := by decide +kernel
theorem fl_9_78 : Cond.fieldLink cn_9 78 (ft_6 2).1 (ft_6 2).2.1 (ft_6 2).2.2.1 ∈ ce_cm := ce_cm_of (List.mem_of_getElem? (i := 147) (by decide +kernel)) (by decide +kernel)
theorem gf_9_78 (C : ce_Cx p s m args c meth cc nL ret cn_9 D ad cA B0 (ce_St aK aV B0)) (hH : ce_H D ad cA B0 X s h H locs) (hdg : decode cc pc = .ok (.getfield 78, 3)) (kk : W p l e0 R s m args below meth c H locs cells slots Q (F0 m (pc + 3) ls (.int (h 1 2) :: rest))) : W p l e0 R s m args below meth c H locs cells slots Q (F0 m pc ls (.ref (ad 1) :: rest)) := by
  exact ce_get C hH (k := 1) (ci := 6) (j := 2) (N := 6) (sj := none) (by decide) rfl rfl fw_6 (by decide) fl_9_78 rfl hdg kk
theorem pf_9_78 (C : ce_Cx p s m args c meth cc nL ret cn_9 D ad cA B0 (ce_St aK aV B0)) (hH : ce_H D ad cA B0 X s h H locs) {x : Int32} (hdg : decode cc pc = .ok (.putfield 78, 3)) (kk : ∀ (H1 : Heap) (locs1 : List Loc), ce_H D ad cA B0 X s (hp_up h 1 2 x) H1 locs1 → W p l e0 R s m args below meth c H1 locs1 cells slots Q (F0 m (pc + 3) ls rest)) : W p l e0 R s m args below meth c H locs cells slots Q (F0 m pc ls (.int x :: .ref (ad 1) :: rest)) := by
  exact ce_put C hH (k := 1) (ci := 6) (j := 2) (N := 6) (fy := fy_6) (sj := none) x (by decide) rfl rfl fw_6 fo_6 fn_6 (by decide) fl_9_78 rfl rfl (v := .int x) (by simp [ce_slot, upd]) rfl rfl hdg kk
theorem fl_9_75 : Cond.fieldLink cn_9 75 (ft_6 3).1 (ft_6 3).2.1 (ft_6 3).2.2.1 ∈ ce_cm := ce_cm_of (List.mem_of_getElem? (i := 150) (by decide +kernel)) (by decide +kernel)
theorem gf_9_75 (C : ce_Cx p s m args c meth cc nL ret cn_9 D ad cA B0 (ce_St aK aV B0)) (hH : ce_H D ad cA B0 X s h H locs) (hdg : decode cc pc = .ok (.getfield 75, 3)) (kk : W p l e0 R s m args below meth c H locs cells slots Q (F0 m (pc + 3) ls (.int (h 1 3) :: rest))) : W p l e0 R s m args below meth c H locs cells slots Q (F0 m pc ls (.ref (ad 1) :: rest)) := by
  exact ce_get C hH (k := 1) (ci := 6) (j := 3) (N := 6) (sj := none) (by decide) rfl rfl fw_6 (by decide) fl_9_75 rfl hdg kk
theorem pf_9_75 (C : ce_Cx p s m args c meth cc nL ret cn_9 D ad cA B0 (ce_St aK aV B0)) (hH : ce_H D ad cA B0 X s h H locs) {x : Int32} (hdg : decode cc pc = .ok (.putfield 75, 3)) (kk : ∀ (H1 : Heap) (locs1 : List Loc), ce_H D ad cA B0 X s (hp_up h 1 3 x) H1 locs1 → W p l e0 R s m args below meth c H1 locs1 cells slots Q (F0 m (pc + 3) ls rest)) : W p l e0 R s m args below meth c H locs cells slots Q (F0 m pc ls (.int x :: .ref (ad 1) :: rest)) := by
  exact ce_put C hH (k := 1) (ci := 6) (j := 3) (N := 6) (fy := fy_6) (sj := none) x (by decide) rfl rfl fw_6 fo_6 fn_6 (by decide) fl_9_75 rfl rfl (v := .int x) (by simp [ce_slot, upd]) rfl rfl hdg kk
theorem fl_9_84 : Cond.fieldLink cn_9 84 (ft_6 0).1 (ft_6 0).2.1 (ft_6 0).2.2.1 ∈ ce_cm := ce_cm_of (List.mem_of_getElem? (i := 141) (by decide +kernel)) (by decide +kernel)
theorem gf_9_84 (C : ce_Cx p s m args c meth cc nL ret cn_9 D ad cA B0 (ce_St aK aV B0)) (hH : ce_H D ad cA B0 X s h H locs) (hdg : decode cc pc = .ok (.getfield 84, 3)) (kk : W p l e0 R s m args below meth c H locs cells slots Q (F0 m (pc + 3) ls (.ref (ad 2) :: rest))) : W p l e0 R s m args below meth c H locs cells slots Q (F0 m pc ls (.ref (ad 1) :: rest)) := by
  exact ce_get C hH (k := 1) (ci := 6) (j := 0) (N := 6) (sj := some (some 2)) (by decide) rfl rfl fw_6 (by decide) fl_9_84 rfl hdg kk
theorem mc9_letterOfSign : Cond.code y9_letterOfSign b9_letterOfSign 1 (some .int) ∈ ce_cm := ce_cm_of (List.mem_of_getElem? (i := 967) (by decide +kernel)) (by decide +kernel)
theorem ml_9_94 : Cond.methodLink cn_9 94 y9_letterOfSign ∈ ce_cm := ce_cm_of (List.mem_of_getElem? (i := 965) (by decide +kernel)) (by decide +kernel)
theorem mt9_letterOfSign : Cond.static y9_letterOfSign ∈ ce_cm := ce_cm_of (List.mem_of_getElem? (i := 966) (by decide +kernel)) (by decide +kernel)
theorem mI_9 : Cond.initialized cn_9 ∈ ce_cm := ce_cm_of (List.mem_of_getElem? (i := 96) (by decide +kernel)) (by decide +kernel)
theorem ml_9_88 : Cond.methodLink cn_9 88 y7_byteAt ∈ ce_cm := ce_cm_of (List.mem_of_getElem? (i := 964) (by decide +kernel)) (by decide +kernel)
def f9_lettersHere_b7 (F : Nat) (x1 : Int32) (x2 : Int32) (x3 : Int32) (h : Hp) : Option ((Int32 × Int32 × Hp) ⊕ (Int32 × Hp)) :=
  if (h 1 3) ≤ x3 then
    some (.inr (x2, h))
  else
    Option.bind (f7_byteAt F x3 h) (fun o20 =>
      Option.bind (f9_letterOfSign F o20.1 o20.2) (fun o23 =>
        if o23.1 = x1 then
          some (.inl (x2 + (1 : Int32), x3 + (1 : Int32), o23.2))
        else
          some (.inl (x2, x3 + (1 : Int32), o23.2))))
set_option maxRecDepth 20000 in
theorem l9_lettersHere_7 (C : ce_Cx p s m args c meth b9_lettersHere 4 (some .int) cn_9 D ad cA B0 (ce_St aK aV B0)) (F : Nat) (x1 : Int32)  (r : Int32 × Hp) (g : (Int32 × Hp) → Option (Int32 × Hp)) (hx : ∀ (x2 : Int32) (h : Hp) (H : Heap) (locs : List Loc) (ls : Array Slot), ce_H D ad cA B0 [] s h H locs → lv_has ls 4 [(2, .int x2)] → g (x2, h) = some r → W p l e0 { frames := 1, cells := 0, slots := 0, locals := 21 } s m args below meth c H locs 0 0 (MQ below (ce_Q D ad cA B0 (ce_St aK aV B0) (some (.int r.1)) r.2) args s 0 0 (fun q => B0 ≤ q)) (F0 m 39 ls [])) : ∀ (n : Nat) (x2 : Int32) (x3 : Int32) (h : Hp) (H : Heap) (locs : List Loc) (ls : Array Slot), ce_H D ad cA B0 [] s h H locs → lv_has ls 4 [(0, .ref (ad 1)), (1, .int x1), (2, .int x2), (3, .int x3)] → Option.bind (ce_it (fun (st : Int32 × Int32 × Hp) => f9_lettersHere_b7 F x1 st.1 st.2.1 st.2.2) n (x2, x3, h)) g = some r → W p l e0 { frames := 1, cells := 0, slots := 0, locals := 21 } s m args below meth c H locs 0 0 (MQ below (ce_Q D ad cA B0 (ce_St aK aV B0) (some (.int r.1)) r.2) args s 0 0 (fun q => B0 ≤ q)) (F0 m 7 ls []) := by
  intro n
  induction n with
  | zero =>
    intro x2 x3 h H locs ls hH hl e
    exact absurd e (fun z => by cases z)
  | succ n ih =>
    intro x2 x3 h H locs ls hH hl e
    have hx9 := C.1
    have hb := C.2.1
    have e : Option.bind (f9_lettersHere_b7 F x1 x2 x3 h) _ = some r := ce_it_bd e
    unfold f9_lettersHere_b7 at e
    refine lv_iload_n hx9 hb d9_lettersHere_7 rfl (lv_at hl 3 rfl) ?_
    refine lv_aload_n hx9 hb d9_lettersHere_8 rfl (lv_at hl 0 rfl) ?_
    refine gf_9_75 C hH d9_lettersHere_9 ?_
    refine lv_icmp_ge (tgt := 39) hx9 hb d9_lettersHere_12 (by decide) (fun hc12 => ?_) (fun hc12 => ?_)
    · have e := ce_if1 e hc12
      exact hx x2 h _ _ _ hH (lv_sub hl [2] rfl) e
    · have e := ce_if0 e hc12
      refine lv_aload_n hx9 hb d9_lettersHere_15 rfl (lv_at hl 0 rfl) ?_
      refine gf_9_84 C hH d9_lettersHere_16 ?_
      refine lv_iload_n hx9 hb d9_lettersHere_19 rfl (lv_at hl 3 rfl) ?_
      obtain ⟨o20, eo20, e⟩ := ce_bd e
      refine ce_callV (As := [.int x3]) (rest := []) C (ce_sok aK aV B0) hH (c7_byteAt l D ad cA aK aV B0 C.2.2.2.2.2.2.1 F x3  h o20 eo20) lo_2.1 lo_2.2.choose_spec rfl rfl mc7_byteAt ml_9_88 mi7_byteAt ms7_byteAt mI_7 (n := 1) (by decide) rfl ⟨Nat.le_of_ble_eq_true rfl, Nat.le_of_ble_eq_true rfl⟩ ⟨Nat.le_of_ble_eq_true rfl, Nat.le_of_ble_eq_true rfl⟩ hl.1 rfl (Nat.le_of_ble_eq_true rfl) d9_lettersHere_20 (fun H locs hH => ?_)
      refine W.eq (g2 := F0 m 23 ls [.int o20.1]) rfl ?_
      obtain ⟨o23, eo23, e⟩ := ce_bd e
      refine ce_callS (As := [.int o20.1]) (rest := []) C (ce_sok aK aV B0) hH (c9_letterOfSign l D ad cA aK aV B0 C.2.2.2.2.2.2.1 F o20.1  o20.2 o23 eo23) mc9_letterOfSign ml_9_94 mt9_letterOfSign mI_9 (n := 1) (by decide) rfl ⟨Nat.le_of_ble_eq_true rfl, Nat.le_of_ble_eq_true rfl⟩ ⟨Nat.le_of_ble_eq_true rfl, Nat.le_of_ble_eq_true rfl⟩ hl.1 rfl (Nat.le_of_ble_eq_true rfl) d9_lettersHere_23 (fun H locs hH => ?_)
      refine W.eq (g2 := F0 m 26 ls [.int o23.1]) rfl ?_
      refine lv_iload_n hx9 hb d9_lettersHere_26 rfl (lv_at hl 1 rfl) ?_
      refine lv_icmp_ne (tgt := 33) hx9 hb d9_lettersHere_27 (by decide) (fun hc27 => ?_) (fun hc27 => ?_)
      · have e := ce_if0 e hc27
        refine lv_iinc (v := x3 + (1 : Int32)) (lv' := [(3, .int (x3 + (1 : Int32))), (0, .ref (ad 1)), (1, .int x1), (2, .int x2)]) hx9 hb d9_lettersHere_33 hl (k := 3) rfl rfl (by decide) rfl (fun ls hl => ?_)
        refine lv_goto (tgt := 7) hx9 hb d9_lettersHere_36 (by decide) ?_
        exact ih x2 (x3 + (1 : Int32)) o23.2 _ _ _ hH (lv_sub hl [1, 2, 3, 0] rfl) e
      · have e := ce_if1 e hc27
        refine lv_iinc (v := x2 + (1 : Int32)) (lv' := [(2, .int (x2 + (1 : Int32))), (0, .ref (ad 1)), (1, .int x1), (3, .int x3)]) hx9 hb d9_lettersHere_30 hl (k := 2) rfl rfl (by decide) rfl (fun ls hl => ?_)
        refine lv_iinc (v := x3 + (1 : Int32)) (lv' := [(3, .int (x3 + (1 : Int32))), (2, .int (x2 + (1 : Int32))), (0, .ref (ad 1)), (1, .int x1)]) hx9 hb d9_lettersHere_33 hl (k := 3) rfl rfl (by decide) rfl (fun ls hl => ?_)
        refine lv_goto (tgt := 7) hx9 hb d9_lettersHere_36 (by decide) ?_
        exact ih (x2 + (1 : Int32)) (x3 + (1 : Int32)) o23.2 _ _ _ hH (lv_sub hl [2, 3, 1, 0] rfl) e
def f9_lettersHere (F : Nat) (x1 : Int32) (h : Hp) : Option (Int32 × Hp) :=
  Option.bind (ce_it (fun (st : Int32 × Int32 × Hp) => f9_lettersHere_b7 F x1 st.1 st.2.1 st.2.2) F ((0 : Int32), h 1 2, h)) (fun o7 =>
    some (o7.1, o7.2))
set_option maxRecDepth 20000 in
theorem c9_lettersHere (l : Launch) (D : va_G) (ad : Nat → Nat) (cA : Nat → ClassId) (aK aV : Nat → Nat) (B0 : Nat) (hA : ce_Ad ad B0) (F : Nat) (x1 : Int32)  (h : Hp) (r : Int32 × Hp) (e : f9_lettersHere F x1 h = some r) : ce_Ct l D ad cA B0 (ce_St aK aV B0) y9_lettersHere b9_lettersHere 4 (some .int) 1 21 0 0 [.ref (ad 1), .int x1] h (some (.int r.1)) r.2 := by
  refine ce_enter hA (by decide) rfl (Nat.le_of_ble_eq_true rfl) (fun p e0 s m below meth c ls C hH hl => ?_)
  have hl : lv_has ls 4 [(0, .ref (ad 1)), (1, .int x1)] := hl
  have hx := C.1
  have hb := C.2.1
  have e : Option.bind _ some = some r := (congrArg (fun z => Option.bind z some) e).trans rfl
  unfold f9_lettersHere at e
  refine lv_iconst (v := (0 : Int32)) hx hb d9_lettersHere_0 (by decide) ?_
  refine lv_istore_n (lv' := [(2, .int (0 : Int32)), (0, .ref (ad 1)), (1, .int x1)]) hx hb d9_lettersHere_1 rfl hl (by decide) rfl (fun ls hl => ?_)
  refine lv_aload_n hx hb d9_lettersHere_2 rfl (lv_at hl 1 rfl) ?_
  refine gf_9_78 C hH d9_lettersHere_3 ?_
  refine lv_istore_n (lv' := [(3, .int (h 1 2)), (2, .int (0 : Int32)), (0, .ref (ad 1)), (1, .int x1)]) hx hb d9_lettersHere_6 rfl hl (by decide) rfl (fun ls hl => ?_)
  refine l9_lettersHere_7 C F x1  r _ (fun y7_2 h_7 H locs ls hH hl e => ?_) F (0 : Int32) (h 1 2) h _ _ _ hH (lv_sub hl [2, 3, 1, 0] rfl) (ce_as e)
  try dsimp only at e
  refine lv_iload_n hx hb d9_lettersHere_39 rfl (lv_at hl 0 rfl) ?_
  exact ce_iretE C (ce_sok aK aV B0) hH e d9_lettersHere_40
abbrev b9_isPacketHere : ByteArray := prog_11_method_4_code
def y9_isPacketHere : MethodName := ⟨cn_9, "isPacketHere", "(LCableElection$Reading;)Z"⟩
theorem d9_isPacketHere_0 : decode b9_isPacketHere 0 = .ok (.aload_n 0, 1) := by decide +kernel
theorem d9_isPacketHere_1 : decode b9_isPacketHere 1 = .ok (.getfield 75, 3) := by decide +kernel
theorem d9_isPacketHere_4 : decode b9_isPacketHere 4 = .ok (.aload_n 0, 1) := by decide +kernel
theorem d9_isPacketHere_5 : decode b9_isPacketHere 5 = .ok (.getfield 78, 3) := by decide +kernel
theorem d9_isPacketHere_8 : decode b9_isPacketHere 8 = .ok (.isub, 1) := by decide +kernel
theorem d9_isPacketHere_9 : decode b9_isPacketHere 9 = .ok (.istore_n 1, 1) := by decide +kernel
theorem d9_isPacketHere_10 : decode b9_isPacketHere 10 = .ok (.aload_n 0, 1) := by decide +kernel
theorem d9_isPacketHere_11 : decode b9_isPacketHere 11 = .ok (.getfield 81, 3) := by decide +kernel
theorem d9_isPacketHere_14 : decode b9_isPacketHere 14 = .ok (.iconst 1, 1) := by decide +kernel
theorem d9_isPacketHere_15 : decode b9_isPacketHere 15 = .ok (.if_icmp .ne 8, 3) := by decide +kernel
theorem d9_isPacketHere_18 : decode b9_isPacketHere 18 = .ok (.iload_n 1, 1) := by decide +kernel
theorem d9_isPacketHere_19 : decode b9_isPacketHere 19 = .ok (.iconst 4, 1) := by decide +kernel
theorem d9_isPacketHere_20 : decode b9_isPacketHere 20 = .ok (.if_icmp .le 5, 3) := by decide +kernel
theorem d9_isPacketHere_23 : decode b9_isPacketHere 23 = .ok (.iconst 0, 1) := by decide +kernel
theorem d9_isPacketHere_24 : decode b9_isPacketHere 24 = .ok (.ireturn, 1) := by decide +kernel
theorem d9_isPacketHere_25 : decode b9_isPacketHere 25 = .ok (.aload_n 0, 1) := by decide +kernel
theorem d9_isPacketHere_26 : decode b9_isPacketHere 26 = .ok (.iconst 0, 1) := by decide +kernel
theorem d9_isPacketHere_27 : decode b9_isPacketHere 27 = .ok (.invokestatic 65, 3) := by decide +kernel
theorem d9_isPacketHere_30 : decode b9_isPacketHere 30 = .ok (.aload_n 0, 1) := by decide +kernel
theorem d9_isPacketHere_31 : decode b9_isPacketHere 31 = .ok (.iconst 1, 1) := by decide +kernel
theorem d9_isPacketHere_32 : decode b9_isPacketHere 32 = .ok (.invokestatic 65, 3) := by decide +kernel
theorem d9_isPacketHere_35 : decode b9_isPacketHere 35 = .ok (.iadd, 1) := by decide +kernel
theorem d9_isPacketHere_36 : decode b9_isPacketHere 36 = .ok (.aload_n 0, 1) := by decide +kernel
theorem d9_isPacketHere_37 : decode b9_isPacketHere 37 = .ok (.iconst 2, 1) := by decide +kernel
theorem d9_isPacketHere_38 : decode b9_isPacketHere 38 = .ok (.invokestatic 65, 3) := by decide +kernel
theorem d9_isPacketHere_41 : decode b9_isPacketHere 41 = .ok (.iadd, 1) := by decide +kernel
theorem d9_isPacketHere_42 : decode b9_isPacketHere 42 = .ok (.istore_n 2, 1) := by decide +kernel
theorem d9_isPacketHere_43 : decode b9_isPacketHere 43 = .ok (.iload_n 2, 1) := by decide +kernel
theorem d9_isPacketHere_44 : decode b9_isPacketHere 44 = .ok (.iload_n 1, 1) := by decide +kernel
theorem d9_isPacketHere_45 : decode b9_isPacketHere 45 = .ok (.if_icmp .ne 16, 3) := by decide +kernel
theorem d9_isPacketHere_48 : decode b9_isPacketHere 48 = .ok (.aload_n 0, 1) := by decide +kernel
theorem d9_isPacketHere_49 : decode b9_isPacketHere 49 = .ok (.iconst 1, 1) := by decide +kernel
theorem d9_isPacketHere_50 : decode b9_isPacketHere 50 = .ok (.invokestatic 65, 3) := by decide +kernel
theorem d9_isPacketHere_53 : decode b9_isPacketHere 53 = .ok (.iconst 1, 1) := by decide +kernel
theorem d9_isPacketHere_54 : decode b9_isPacketHere 54 = .ok (.if_icmp .gt 7, 3) := by decide +kernel
theorem d9_isPacketHere_57 : decode b9_isPacketHere 57 = .ok (.iconst 1, 1) := by decide +kernel
theorem d9_isPacketHere_58 : decode b9_isPacketHere 58 = .ok (.goto 4, 3) := by decide +kernel
theorem d9_isPacketHere_61 : decode b9_isPacketHere 61 = .ok (.iconst 0, 1) := by decide +kernel
theorem d9_isPacketHere_62 : decode b9_isPacketHere 62 = .ok (.ireturn, 1) := by decide +kernel
theorem fl_9_81 : Cond.fieldLink cn_9 81 (ft_6 1).1 (ft_6 1).2.1 (ft_6 1).2.2.1 ∈ ce_cm := ce_cm_of (List.mem_of_getElem? (i := 144) (by decide +kernel)) (by decide +kernel)
theorem gf_9_81 (C : ce_Cx p s m args c meth cc nL ret cn_9 D ad cA B0 (ce_St aK aV B0)) (hH : ce_H D ad cA B0 X s h H locs) (hdg : decode cc pc = .ok (.getfield 81, 3)) (kk : W p l e0 R s m args below meth c H locs cells slots Q (F0 m (pc + 3) ls (.int (h 1 1) :: rest))) : W p l e0 R s m args below meth c H locs cells slots Q (F0 m pc ls (.ref (ad 1) :: rest)) := by
  exact ce_get C hH (k := 1) (ci := 6) (j := 1) (N := 6) (sj := none) (by decide) rfl rfl fw_6 (by decide) fl_9_81 rfl hdg kk
theorem pf_9_81 (C : ce_Cx p s m args c meth cc nL ret cn_9 D ad cA B0 (ce_St aK aV B0)) (hH : ce_H D ad cA B0 X s h H locs) {x : Int32} (hdg : decode cc pc = .ok (.putfield 81, 3)) (kk : ∀ (H1 : Heap) (locs1 : List Loc), ce_H D ad cA B0 X s (hp_up h 1 1 x) H1 locs1 → W p l e0 R s m args below meth c H1 locs1 cells slots Q (F0 m (pc + 3) ls rest)) : W p l e0 R s m args below meth c H locs cells slots Q (F0 m pc ls (.int x :: .ref (ad 1) :: rest)) := by
  exact ce_put C hH (k := 1) (ci := 6) (j := 1) (N := 6) (fy := fy_6) (sj := none) x (by decide) rfl rfl fw_6 fo_6 fn_6 (by decide) fl_9_81 rfl rfl (v := .int x) (by simp [ce_slot, upd]) rfl rfl hdg kk
theorem mc9_lettersHere : Cond.code y9_lettersHere b9_lettersHere 4 (some .int) ∈ ce_cm := ce_cm_of (List.mem_of_getElem? (i := 963) (by decide +kernel)) (by decide +kernel)
theorem ml_9_65 : Cond.methodLink cn_9 65 y9_lettersHere ∈ ce_cm := ce_cm_of (List.mem_of_getElem? (i := 961) (by decide +kernel)) (by decide +kernel)
theorem mt9_lettersHere : Cond.static y9_lettersHere ∈ ce_cm := ce_cm_of (List.mem_of_getElem? (i := 962) (by decide +kernel)) (by decide +kernel)
def f9_isPacketHere (F : Nat)  (h : Hp) : Option (Int32 × Hp) :=
  if (h 1 1) = (1 : Int32) then
    if ((h 1 3) - (h 1 2)) ≤ (4 : Int32) then
      Option.bind (f9_lettersHere F (0 : Int32) h) (fun o27 =>
        Option.bind (f9_lettersHere F (1 : Int32) o27.2) (fun o32 =>
          Option.bind (f9_lettersHere F (2 : Int32) o32.2) (fun o38 =>
            if ((o27.1 + o32.1) + o38.1) = ((h 1 3) - (h 1 2)) then
              Option.bind (f9_lettersHere F (1 : Int32) o38.2) (fun o50 =>
                if (1 : Int32) < o50.1 then
                  some ((0 : Int32), o50.2)
                else
                  some ((1 : Int32), o50.2))
            else
              some ((0 : Int32), o38.2))))
    else
      some ((0 : Int32), h)
  else
    some ((0 : Int32), h)
set_option maxRecDepth 20000 in
theorem c9_isPacketHere (l : Launch) (D : va_G) (ad : Nat → Nat) (cA : Nat → ClassId) (aK aV : Nat → Nat) (B0 : Nat) (hA : ce_Ad ad B0) (F : Nat)   (h : Hp) (r : Int32 × Hp) (e : f9_isPacketHere F  h = some r) : ce_Ct l D ad cA B0 (ce_St aK aV B0) y9_isPacketHere b9_isPacketHere 3 (some .boolean) 2 44 0 0 [.ref (ad 1)] h (some (.int r.1)) r.2 := by
  refine ce_enter hA (by decide) rfl (Nat.le_of_ble_eq_true rfl) (fun p e0 s m below meth c ls C hH hl => ?_)
  have hl : lv_has ls 3 [(0, .ref (ad 1))] := hl
  have hx := C.1
  have hb := C.2.1
  have e : Option.bind _ some = some r := (congrArg (fun z => Option.bind z some) e).trans rfl
  unfold f9_isPacketHere at e
  refine lv_aload_n hx hb d9_isPacketHere_0 rfl (lv_at hl 0 rfl) ?_
  refine gf_9_75 C hH d9_isPacketHere_1 ?_
  refine lv_aload_n hx hb d9_isPacketHere_4 rfl (lv_at hl 0 rfl) ?_
  refine gf_9_78 C hH d9_isPacketHere_5 ?_
  refine lv_isub hx hb d9_isPacketHere_8 ?_
  refine lv_istore_n (lv' := [(1, .int ((h 1 3) - (h 1 2))), (0, .ref (ad 1))]) hx hb d9_isPacketHere_9 rfl hl (by decide) rfl (fun ls hl => ?_)
  refine lv_aload_n hx hb d9_isPacketHere_10 rfl (lv_at hl 1 rfl) ?_
  refine gf_9_81 C hH d9_isPacketHere_11 ?_
  refine lv_iconst (v := (1 : Int32)) hx hb d9_isPacketHere_14 (by decide) ?_
  refine lv_icmp_ne (tgt := 23) hx hb d9_isPacketHere_15 (by decide) (fun hc15 => ?_) (fun hc15 => ?_)
  · have e := ce_if0 e hc15
    refine lv_iconst (v := (0 : Int32)) hx hb d9_isPacketHere_23 (by decide) ?_
    exact ce_zretE C (ce_sok aK aV B0) hH (Or.inl rfl) e d9_isPacketHere_24
  · have e := ce_if1 e hc15
    refine lv_iload_n hx hb d9_isPacketHere_18 rfl (lv_at hl 0 rfl) ?_
    refine lv_iconst (v := (4 : Int32)) hx hb d9_isPacketHere_19 (by decide) ?_
    refine lv_icmp_le (tgt := 25) hx hb d9_isPacketHere_20 (by decide) (fun hc20 => ?_) (fun hc20 => ?_)
    · have e := ce_if1 e hc20
      refine lv_aload_n hx hb d9_isPacketHere_25 rfl (lv_at hl 1 rfl) ?_
      refine lv_iconst (v := (0 : Int32)) hx hb d9_isPacketHere_26 (by decide) ?_
      obtain ⟨o27, eo27, e⟩ := ce_bd e
      refine ce_callS (As := [.ref (ad 1), .int (0 : Int32)]) (rest := []) C (ce_sok aK aV B0) hH (c9_lettersHere l D ad cA aK aV B0 C.2.2.2.2.2.2.1 F (0 : Int32)  h o27 eo27) mc9_lettersHere ml_9_65 mt9_lettersHere mI_9 (n := 2) (by decide) rfl ⟨Nat.le_of_ble_eq_true rfl, Nat.le_of_ble_eq_true rfl⟩ ⟨Nat.le_of_ble_eq_true rfl, Nat.le_of_ble_eq_true rfl⟩ hl.1 rfl (Nat.le_of_ble_eq_true rfl) d9_isPacketHere_27 (fun H locs hH => ?_)
      refine W.eq (g2 := F0 m 30 ls [.int o27.1]) rfl ?_
      refine lv_aload_n hx hb d9_isPacketHere_30 rfl (lv_at hl 1 rfl) ?_
      refine lv_iconst (v := (1 : Int32)) hx hb d9_isPacketHere_31 (by decide) ?_
      obtain ⟨o32, eo32, e⟩ := ce_bd e
      refine ce_callS (As := [.ref (ad 1), .int (1 : Int32)]) (rest := [.int o27.1]) C (ce_sok aK aV B0) hH (c9_lettersHere l D ad cA aK aV B0 C.2.2.2.2.2.2.1 F (1 : Int32)  o27.2 o32 eo32) mc9_lettersHere ml_9_65 mt9_lettersHere mI_9 (n := 2) (by decide) rfl ⟨Nat.le_of_ble_eq_true rfl, Nat.le_of_ble_eq_true rfl⟩ ⟨Nat.le_of_ble_eq_true rfl, Nat.le_of_ble_eq_true rfl⟩ hl.1 rfl (Nat.le_of_ble_eq_true rfl) d9_isPacketHere_32 (fun H locs hH => ?_)
      refine W.eq (g2 := F0 m 35 ls [.int o32.1, .int o27.1]) rfl ?_
      refine lv_iadd hx hb d9_isPacketHere_35 ?_
      refine lv_aload_n hx hb d9_isPacketHere_36 rfl (lv_at hl 1 rfl) ?_
      refine lv_iconst (v := (2 : Int32)) hx hb d9_isPacketHere_37 (by decide) ?_
      obtain ⟨o38, eo38, e⟩ := ce_bd e
      refine ce_callS (As := [.ref (ad 1), .int (2 : Int32)]) (rest := [.int (o27.1 + o32.1)]) C (ce_sok aK aV B0) hH (c9_lettersHere l D ad cA aK aV B0 C.2.2.2.2.2.2.1 F (2 : Int32)  o32.2 o38 eo38) mc9_lettersHere ml_9_65 mt9_lettersHere mI_9 (n := 2) (by decide) rfl ⟨Nat.le_of_ble_eq_true rfl, Nat.le_of_ble_eq_true rfl⟩ ⟨Nat.le_of_ble_eq_true rfl, Nat.le_of_ble_eq_true rfl⟩ hl.1 rfl (Nat.le_of_ble_eq_true rfl) d9_isPacketHere_38 (fun H locs hH => ?_)
      refine W.eq (g2 := F0 m 41 ls [.int o38.1, .int (o27.1 + o32.1)]) rfl ?_
      refine lv_iadd hx hb d9_isPacketHere_41 ?_
      refine lv_istore_n (lv' := [(2, .int ((o27.1 + o32.1) + o38.1)), (1, .int ((h 1 3) - (h 1 2))), (0, .ref (ad 1))]) hx hb d9_isPacketHere_42 rfl hl (by decide) rfl (fun ls hl => ?_)
      refine lv_iload_n hx hb d9_isPacketHere_43 rfl (lv_at hl 0 rfl) ?_
      refine lv_iload_n hx hb d9_isPacketHere_44 rfl (lv_at hl 1 rfl) ?_
      refine lv_icmp_ne (tgt := 61) hx hb d9_isPacketHere_45 (by decide) (fun hc45 => ?_) (fun hc45 => ?_)
      · have e := ce_if0 e hc45
        refine lv_iconst (v := (0 : Int32)) hx hb d9_isPacketHere_61 (by decide) ?_
        exact ce_zretE C (ce_sok aK aV B0) hH (Or.inl rfl) e d9_isPacketHere_62
      · have e := ce_if1 e hc45
        refine lv_aload_n hx hb d9_isPacketHere_48 rfl (lv_at hl 2 rfl) ?_
        refine lv_iconst (v := (1 : Int32)) hx hb d9_isPacketHere_49 (by decide) ?_
        obtain ⟨o50, eo50, e⟩ := ce_bd e
        refine ce_callS (As := [.ref (ad 1), .int (1 : Int32)]) (rest := []) C (ce_sok aK aV B0) hH (c9_lettersHere l D ad cA aK aV B0 C.2.2.2.2.2.2.1 F (1 : Int32)  o38.2 o50 eo50) mc9_lettersHere ml_9_65 mt9_lettersHere mI_9 (n := 2) (by decide) rfl ⟨Nat.le_of_ble_eq_true rfl, Nat.le_of_ble_eq_true rfl⟩ ⟨Nat.le_of_ble_eq_true rfl, Nat.le_of_ble_eq_true rfl⟩ hl.1 rfl (Nat.le_of_ble_eq_true rfl) d9_isPacketHere_50 (fun H locs hH => ?_)
        refine W.eq (g2 := F0 m 53 ls [.int o50.1]) rfl ?_
        refine lv_iconst (v := (1 : Int32)) hx hb d9_isPacketHere_53 (by decide) ?_
        refine lv_icmp_gt (tgt := 61) hx hb d9_isPacketHere_54 (by decide) (fun hc54 => ?_) (fun hc54 => ?_)
        · have e := ce_if1 e hc54
          refine lv_iconst (v := (0 : Int32)) hx hb d9_isPacketHere_61 (by decide) ?_
          exact ce_zretE C (ce_sok aK aV B0) hH (Or.inl rfl) e d9_isPacketHere_62
        · have e := ce_if0 e hc54
          refine lv_iconst (v := (1 : Int32)) hx hb d9_isPacketHere_57 (by decide) ?_
          refine lv_goto (tgt := 62) hx hb d9_isPacketHere_58 (by decide) ?_
          exact ce_zretE C (ce_sok aK aV B0) hH (Or.inr rfl) e d9_isPacketHere_62
    · have e := ce_if0 e hc20
      refine lv_iconst (v := (0 : Int32)) hx hb d9_isPacketHere_23 (by decide) ?_
      exact ce_zretE C (ce_sok aK aV B0) hH (Or.inl rfl) e d9_isPacketHere_24
abbrev b9_adopt : ByteArray := prog_11_method_8_code
def y9_adopt : MethodName := ⟨cn_9, "adopt", "(II)V"⟩
theorem d9_adopt_0 : decode b9_adopt 0 = .ok (.aload_n 0, 1) := by decide +kernel
theorem d9_adopt_1 : decode b9_adopt 1 = .ok (.getfield 34, 3) := by decide +kernel
theorem d9_adopt_4 : decode b9_adopt 4 = .ok (.ifCond .le 43, 3) := by decide +kernel
theorem d9_adopt_7 : decode b9_adopt 7 = .ok (.aload_n 0, 1) := by decide +kernel
theorem d9_adopt_8 : decode b9_adopt 8 = .ok (.dup, 1) := by decide +kernel
theorem d9_adopt_9 : decode b9_adopt 9 = .ok (.getfield 34, 3) := by decide +kernel
theorem d9_adopt_12 : decode b9_adopt 12 = .ok (.iconst 1, 1) := by decide +kernel
theorem d9_adopt_13 : decode b9_adopt 13 = .ok (.isub, 1) := by decide +kernel
theorem d9_adopt_14 : decode b9_adopt 14 = .ok (.putfield 34, 3) := by decide +kernel
theorem d9_adopt_17 : decode b9_adopt 17 = .ok (.aload_n 0, 1) := by decide +kernel
theorem d9_adopt_18 : decode b9_adopt 18 = .ok (.getfield 15, 3) := by decide +kernel
theorem d9_adopt_21 : decode b9_adopt 21 = .ok (.aload_n 0, 1) := by decide +kernel
theorem d9_adopt_22 : decode b9_adopt 22 = .ok (.getfield 31, 3) := by decide +kernel
theorem d9_adopt_25 : decode b9_adopt 25 = .ok (.aload_n 0, 1) := by decide +kernel
theorem d9_adopt_26 : decode b9_adopt 26 = .ok (.getfield 34, 3) := by decide +kernel
theorem d9_adopt_29 : decode b9_adopt 29 = .ok (.iaload, 1) := by decide +kernel
theorem d9_adopt_30 : decode b9_adopt 30 = .ok (.iload_n 1, 1) := by decide +kernel
theorem d9_adopt_31 : decode b9_adopt 31 = .ok (.iastore, 1) := by decide +kernel
theorem d9_adopt_32 : decode b9_adopt 32 = .ok (.aload_n 0, 1) := by decide +kernel
theorem d9_adopt_33 : decode b9_adopt 33 = .ok (.getfield 22, 3) := by decide +kernel
theorem d9_adopt_36 : decode b9_adopt 36 = .ok (.aload_n 0, 1) := by decide +kernel
theorem d9_adopt_37 : decode b9_adopt 37 = .ok (.getfield 31, 3) := by decide +kernel
theorem d9_adopt_40 : decode b9_adopt 40 = .ok (.aload_n 0, 1) := by decide +kernel
theorem d9_adopt_41 : decode b9_adopt 41 = .ok (.getfield 34, 3) := by decide +kernel
theorem d9_adopt_44 : decode b9_adopt 44 = .ok (.iaload, 1) := by decide +kernel
theorem d9_adopt_45 : decode b9_adopt 45 = .ok (.iload_n 2, 1) := by decide +kernel
theorem d9_adopt_46 : decode b9_adopt 46 = .ok (.iastore, 1) := by decide +kernel
theorem d9_adopt_47 : decode b9_adopt 47 = .ok (.return_, 1) := by decide +kernel
theorem fl_9_34 : Cond.fieldLink cn_9 34 (ft_9 7).1 (ft_9 7).2.1 (ft_9 7).2.2.1 ∈ ce_cm := ce_cm_of (List.mem_of_getElem? (i := 281) (by decide +kernel)) (by decide +kernel)
theorem gf_9_34 (C : ce_Cx p s m args c meth cc nL ret cn_9 D ad cA B0 (ce_St aK aV B0)) (hH : ce_H D ad cA B0 X s h H locs) {k : Nat} (hk : ce_isTold k) (hdg : decode cc pc = .ok (.getfield 34, 3)) (kk : W p l e0 R s m args below meth c H locs cells slots Q (F0 m (pc + 3) ls (.int (h k 7) :: rest))) : W p l e0 R s m args below meth c H locs cells slots Q (F0 m pc ls (.ref (ad k) :: rest)) := by
  rcases hk with rfl | rfl
  · exact ce_get C hH (k := 21) (ci := 9) (j := 7) (N := 9) (sj := none) (by decide) rfl rfl fw_9 (by decide) fl_9_34 rfl hdg kk
  · exact ce_get C hH (k := 28) (ci := 9) (j := 7) (N := 9) (sj := none) (by decide) rfl rfl fw_9 (by decide) fl_9_34 rfl hdg kk
theorem pf_9_34 (C : ce_Cx p s m args c meth cc nL ret cn_9 D ad cA B0 (ce_St aK aV B0)) (hH : ce_H D ad cA B0 X s h H locs) {k : Nat} (hk : ce_isTold k) {x : Int32} (hdg : decode cc pc = .ok (.putfield 34, 3)) (kk : ∀ (H1 : Heap) (locs1 : List Loc), ce_H D ad cA B0 X s (hp_up h k 7 x) H1 locs1 → W p l e0 R s m args below meth c H1 locs1 cells slots Q (F0 m (pc + 3) ls rest)) : W p l e0 R s m args below meth c H locs cells slots Q (F0 m pc ls (.int x :: .ref (ad k) :: rest)) := by
  rcases hk with rfl | rfl
  · exact ce_put C hH (k := 21) (ci := 9) (j := 7) (N := 9) (fy := fy_9) (sj := none) x (by decide) rfl rfl fw_9 fo_9 fn_9 (by decide) fl_9_34 rfl rfl (v := .int x) (by simp [ce_slot, upd]) rfl rfl hdg kk
  · exact ce_put C hH (k := 28) (ci := 9) (j := 7) (N := 9) (fy := fy_9) (sj := none) x (by decide) rfl rfl fw_9 fo_9 fn_9 (by decide) fl_9_34 rfl rfl (v := .int x) (by simp [ce_slot, upd]) rfl rfl hdg kk
theorem fl_9_15 : Cond.fieldLink cn_9 15 (ft_9 1).1 (ft_9 1).2.1 (ft_9 1).2.2.1 ∈ ce_cm := ce_cm_of (List.mem_of_getElem? (i := 272) (by decide +kernel)) (by decide +kernel)
theorem gf_9_15 (C : ce_Cx p s m args c meth cc nL ret cn_9 D ad cA B0 (ce_St aK aV B0)) (hH : ce_H D ad cA B0 X s h H locs) {k : Nat} (hk : ce_isTold k) (hdg : decode cc pc = .ok (.getfield 15, 3)) (kk : W p l e0 R s m args below meth c H locs cells slots Q (F0 m (pc + 3) ls (.ref (ad (k + 1)) :: rest))) : W p l e0 R s m args below meth c H locs cells slots Q (F0 m pc ls (.ref (ad k) :: rest)) := by
  rcases hk with rfl | rfl
  · exact ce_get C hH (k := 21) (ci := 9) (j := 1) (N := 9) (sj := some (some 22)) (by decide) rfl rfl fw_9 (by decide) fl_9_15 rfl hdg kk
  · exact ce_get C hH (k := 28) (ci := 9) (j := 1) (N := 9) (sj := some (some 29)) (by decide) rfl rfl fw_9 (by decide) fl_9_15 rfl hdg kk
theorem fl_9_31 : Cond.fieldLink cn_9 31 (ft_9 6).1 (ft_9 6).2.1 (ft_9 6).2.2.1 ∈ ce_cm := ce_cm_of (List.mem_of_getElem? (i := 280) (by decide +kernel)) (by decide +kernel)
theorem gf_9_31 (C : ce_Cx p s m args c meth cc nL ret cn_9 D ad cA B0 (ce_St aK aV B0)) (hH : ce_H D ad cA B0 X s h H locs) {k : Nat} (hk : ce_isTold k) (hdg : decode cc pc = .ok (.getfield 31, 3)) (kk : W p l e0 R s m args below meth c H locs cells slots Q (F0 m (pc + 3) ls (.ref (ad (k + 6)) :: rest))) : W p l e0 R s m args below meth c H locs cells slots Q (F0 m pc ls (.ref (ad k) :: rest)) := by
  rcases hk with rfl | rfl
  · exact ce_get C hH (k := 21) (ci := 9) (j := 6) (N := 9) (sj := some (some 27)) (by decide) rfl rfl fw_9 (by decide) fl_9_31 rfl hdg kk
  · exact ce_get C hH (k := 28) (ci := 9) (j := 6) (N := 9) (sj := some (some 34)) (by decide) rfl rfl fw_9 (by decide) fl_9_31 rfl hdg kk
theorem la_Told_6 {k : Nat} (hk : ce_isTold k) : k + 6 < 96 ∧ ce_lay (k + 6) = .inl (0, 12) := by rcases hk with rfl | rfl <;> exact ⟨by decide, rfl⟩
theorem la_Told_1 {k : Nat} (hk : ce_isTold k) : k + 1 < 96 ∧ ce_lay (k + 1) = .inl (0, 12) := by rcases hk with rfl | rfl <;> exact ⟨by decide, rfl⟩
theorem fl_9_22 : Cond.fieldLink cn_9 22 (ft_9 3).1 (ft_9 3).2.1 (ft_9 3).2.2.1 ∈ ce_cm := ce_cm_of (List.mem_of_getElem? (i := 276) (by decide +kernel)) (by decide +kernel)
theorem gf_9_22 (C : ce_Cx p s m args c meth cc nL ret cn_9 D ad cA B0 (ce_St aK aV B0)) (hH : ce_H D ad cA B0 X s h H locs) {k : Nat} (hk : ce_isTold k) (hdg : decode cc pc = .ok (.getfield 22, 3)) (kk : W p l e0 R s m args below meth c H locs cells slots Q (F0 m (pc + 3) ls (.ref (ad (k + 3)) :: rest))) : W p l e0 R s m args below meth c H locs cells slots Q (F0 m pc ls (.ref (ad k) :: rest)) := by
  rcases hk with rfl | rfl
  · exact ce_get C hH (k := 21) (ci := 9) (j := 3) (N := 9) (sj := some (some 24)) (by decide) rfl rfl fw_9 (by decide) fl_9_22 rfl hdg kk
  · exact ce_get C hH (k := 28) (ci := 9) (j := 3) (N := 9) (sj := some (some 31)) (by decide) rfl rfl fw_9 (by decide) fl_9_22 rfl hdg kk
theorem la_Told_3 {k : Nat} (hk : ce_isTold k) : k + 3 < 96 ∧ ce_lay (k + 3) = .inl (0, 12) := by rcases hk with rfl | rfl <;> exact ⟨by decide, rfl⟩
def f9_adopt (F : Nat) (k0 : Nat) (x1 : Int32) (x2 : Int32) (h : Hp) : Option (Hp) :=
  if (h k0 7) ≤ 0 then
    some h
  else
    ce_nm (hp_up h k0 7 ((h k0 7) - (1 : Int32))) (fun h_14 =>
      if ce_in (h_14 k0 7) 12 = true then
        if ce_in (h_14 (k0 + 6) ((h_14 k0 7)).toNatClampNeg) 12 = true then
          ce_nm (hp_up h_14 (k0 + 1) ((h_14 (k0 + 6) ((h_14 k0 7)).toNatClampNeg)).toNatClampNeg x1) (fun h_31 =>
            if ce_in (h_31 k0 7) 12 = true then
              if ce_in (h_31 (k0 + 6) ((h_31 k0 7)).toNatClampNeg) 12 = true then
                ce_nm (hp_up h_31 (k0 + 3) ((h_31 (k0 + 6) ((h_31 k0 7)).toNatClampNeg)).toNatClampNeg x2) (fun h_46 =>
                  some h_46)
              else none
            else none)
        else none
      else none)
set_option maxRecDepth 20000 in
theorem c9_adopt (l : Launch) (D : va_G) (ad : Nat → Nat) (cA : Nat → ClassId) (aK aV : Nat → Nat) (B0 : Nat) (hA : ce_Ad ad B0) (F : Nat) (k0 : Nat) (x1 : Int32) (x2 : Int32) (hk0 : ce_isTold k0) (h : Hp) (r : Hp) (e : f9_adopt F k0 x1 x2 h = some r) : ce_Ct l D ad cA B0 (ce_St aK aV B0) y9_adopt b9_adopt 3 none 0 0 0 0 [.ref (ad k0), .int x1, .int x2] h none r := by
  refine ce_enter hA (by decide) rfl (Nat.le_of_ble_eq_true rfl) (fun p e0 s m below meth c ls C hH hl => ?_)
  have hl : lv_has ls 3 [(0, .ref (ad k0)), (1, .int x1), (2, .int x2)] := hl
  have hx := C.1
  have hb := C.2.1
  have e : Option.bind _ some = some r := (congrArg (fun z => Option.bind z some) e).trans rfl
  unfold f9_adopt at e
  refine lv_aload_n hx hb d9_adopt_0 rfl (lv_at hl 0 rfl) ?_
  refine gf_9_34 C hH hk0 d9_adopt_1 ?_
  refine lv_if_le (tgt := 47) hx hb d9_adopt_4 (by decide) (fun hc4 => ?_) (fun hc4 => ?_)
  · have e := ce_if1 e hc4
    exact ce_vret C (ce_sok aK aV B0) hH (Option.some.inj e) d9_adopt_47
  · have e := ce_if0 e hc4
    refine lv_aload_n hx hb d9_adopt_7 rfl (lv_at hl 0 rfl) ?_
    refine lv_dup hx hb d9_adopt_8 rfl ?_
    refine gf_9_34 C hH hk0 d9_adopt_9 ?_
    refine lv_iconst (v := (1 : Int32)) hx hb d9_adopt_12 (by decide) ?_
    refine lv_isub hx hb d9_adopt_13 ?_
    refine pf_9_34 C hH hk0 d9_adopt_14 (fun H locs hH => ?_)
    obtain ⟨h_14, eh_14, e⟩ := ce_nmE e
    rw [← eh_14] at hH
    refine lv_aload_n hx hb d9_adopt_17 rfl (lv_at hl 0 rfl) ?_
    refine gf_9_15 C hH hk0 d9_adopt_18 ?_
    refine lv_aload_n hx hb d9_adopt_21 rfl (lv_at hl 0 rfl) ?_
    refine gf_9_31 C hH hk0 d9_adopt_22 ?_
    refine lv_aload_n hx hb d9_adopt_25 rfl (lv_at hl 0 rfl) ?_
    refine gf_9_34 C hH hk0 d9_adopt_26 ?_
    obtain ⟨hi29, e⟩ := ce_gd e
    refine ce_iald C hH (la_Told_6 hk0).1 (la_Told_6 hk0).2 (ce_in_vp hi29) d9_adopt_29 ?_
    refine lv_iload_n hx hb d9_adopt_30 rfl (lv_at hl 1 rfl) ?_
    obtain ⟨hi31, e⟩ := ce_gd e
    refine ce_iast C hH (la_Told_1 hk0).1 (la_Told_1 hk0).2 (ce_in_vp hi31) d9_adopt_31 (fun H locs hH => ?_)
    obtain ⟨h_31, eh_31, e⟩ := ce_nmE e
    rw [← eh_31] at hH
    refine lv_aload_n hx hb d9_adopt_32 rfl (lv_at hl 0 rfl) ?_
    refine gf_9_22 C hH hk0 d9_adopt_33 ?_
    refine lv_aload_n hx hb d9_adopt_36 rfl (lv_at hl 0 rfl) ?_
    refine gf_9_31 C hH hk0 d9_adopt_37 ?_
    refine lv_aload_n hx hb d9_adopt_40 rfl (lv_at hl 0 rfl) ?_
    refine gf_9_34 C hH hk0 d9_adopt_41 ?_
    obtain ⟨hi44, e⟩ := ce_gd e
    refine ce_iald C hH (la_Told_6 hk0).1 (la_Told_6 hk0).2 (ce_in_vp hi44) d9_adopt_44 ?_
    refine lv_iload_n hx hb d9_adopt_45 rfl (lv_at hl 2 rfl) ?_
    obtain ⟨hi46, e⟩ := ce_gd e
    refine ce_iast C hH (la_Told_3 hk0).1 (la_Told_3 hk0).2 (ce_in_vp hi46) d9_adopt_46 (fun H locs hH => ?_)
    obtain ⟨h_46, eh_46, e⟩ := ce_nmE e
    rw [← eh_46] at hH
    exact ce_vret C (ce_sok aK aV B0) hH (Option.some.inj e) d9_adopt_47
abbrev b9_addPacket : ByteArray := prog_11_method_7_code
def y9_addPacket : MethodName := ⟨cn_9, "addPacket", "(LCableElection$Reading;)V"⟩
theorem d9_addPacket_0 : decode b9_addPacket 0 = .ok (.aload_n 0, 1) := by decide +kernel
theorem d9_addPacket_1 : decode b9_addPacket 1 = .ok (.getfield 9, 3) := by decide +kernel
theorem d9_addPacket_4 : decode b9_addPacket 4 = .ok (.istore_n 2, 1) := by decide +kernel
theorem d9_addPacket_5 : decode b9_addPacket 5 = .ok (.aload_n 0, 1) := by decide +kernel
theorem d9_addPacket_6 : decode b9_addPacket 6 = .ok (.getfield 25, 3) := by decide +kernel
theorem d9_addPacket_9 : decode b9_addPacket 9 = .ok (.iload_n 2, 1) := by decide +kernel
theorem d9_addPacket_10 : decode b9_addPacket 10 = .ok (.aload_n 1, 1) := by decide +kernel
theorem d9_addPacket_11 : decode b9_addPacket 11 = .ok (.getfield 75, 3) := by decide +kernel
theorem d9_addPacket_14 : decode b9_addPacket 14 = .ok (.aload_n 1, 1) := by decide +kernel
theorem d9_addPacket_15 : decode b9_addPacket 15 = .ok (.getfield 78, 3) := by decide +kernel
theorem d9_addPacket_18 : decode b9_addPacket 18 = .ok (.isub, 1) := by decide +kernel
theorem d9_addPacket_19 : decode b9_addPacket 19 = .ok (.iconst 4, 1) := by decide +kernel
theorem d9_addPacket_20 : decode b9_addPacket 20 = .ok (.invokestatic 97, 3) := by decide +kernel
theorem d9_addPacket_23 : decode b9_addPacket 23 = .ok (.iastore, 1) := by decide +kernel
theorem d9_addPacket_24 : decode b9_addPacket 24 = .ok (.aload_n 0, 1) := by decide +kernel
theorem d9_addPacket_25 : decode b9_addPacket 25 = .ok (.getfield 15, 3) := by decide +kernel
theorem d9_addPacket_28 : decode b9_addPacket 28 = .ok (.iload_n 2, 1) := by decide +kernel
theorem d9_addPacket_29 : decode b9_addPacket 29 = .ok (.iconst (-1), 1) := by decide +kernel
theorem d9_addPacket_30 : decode b9_addPacket 30 = .ok (.iastore, 1) := by decide +kernel
theorem d9_addPacket_31 : decode b9_addPacket 31 = .ok (.aload_n 0, 1) := by decide +kernel
theorem d9_addPacket_32 : decode b9_addPacket 32 = .ok (.getfield 19, 3) := by decide +kernel
theorem d9_addPacket_35 : decode b9_addPacket 35 = .ok (.iload_n 2, 1) := by decide +kernel
theorem d9_addPacket_36 : decode b9_addPacket 36 = .ok (.iconst (-1), 1) := by decide +kernel
theorem d9_addPacket_37 : decode b9_addPacket 37 = .ok (.iastore, 1) := by decide +kernel
theorem d9_addPacket_38 : decode b9_addPacket 38 = .ok (.aload_n 0, 1) := by decide +kernel
theorem d9_addPacket_39 : decode b9_addPacket 39 = .ok (.getfield 22, 3) := by decide +kernel
theorem d9_addPacket_42 : decode b9_addPacket 42 = .ok (.iload_n 2, 1) := by decide +kernel
theorem d9_addPacket_43 : decode b9_addPacket 43 = .ok (.iconst (-1), 1) := by decide +kernel
theorem d9_addPacket_44 : decode b9_addPacket 44 = .ok (.iastore, 1) := by decide +kernel
theorem d9_addPacket_45 : decode b9_addPacket 45 = .ok (.aload_n 0, 1) := by decide +kernel
theorem d9_addPacket_46 : decode b9_addPacket 46 = .ok (.getfield 25, 3) := by decide +kernel
theorem d9_addPacket_49 : decode b9_addPacket 49 = .ok (.iload_n 2, 1) := by decide +kernel
theorem d9_addPacket_50 : decode b9_addPacket 50 = .ok (.iaload, 1) := by decide +kernel
theorem d9_addPacket_51 : decode b9_addPacket 51 = .ok (.iconst 1, 1) := by decide +kernel
theorem d9_addPacket_52 : decode b9_addPacket 52 = .ok (.isub, 1) := by decide +kernel
theorem d9_addPacket_53 : decode b9_addPacket 53 = .ok (.istore_n 3, 1) := by decide +kernel
theorem d9_addPacket_54 : decode b9_addPacket 54 = .ok (.iload_n 3, 1) := by decide +kernel
theorem d9_addPacket_55 : decode b9_addPacket 55 = .ok (.ifCond .lt 67, 3) := by decide +kernel
theorem d9_addPacket_58 : decode b9_addPacket 58 = .ok (.aload_n 1, 1) := by decide +kernel
theorem d9_addPacket_59 : decode b9_addPacket 59 = .ok (.getfield 84, 3) := by decide +kernel
theorem d9_addPacket_62 : decode b9_addPacket 62 = .ok (.aload_n 1, 1) := by decide +kernel
theorem d9_addPacket_63 : decode b9_addPacket 63 = .ok (.getfield 78, 3) := by decide +kernel
theorem d9_addPacket_66 : decode b9_addPacket 66 = .ok (.iload_n 3, 1) := by decide +kernel
theorem d9_addPacket_67 : decode b9_addPacket 67 = .ok (.iadd, 1) := by decide +kernel
theorem d9_addPacket_68 : decode b9_addPacket 68 = .ok (.invokevirtual 88, 3) := by decide +kernel
theorem d9_addPacket_71 : decode b9_addPacket 71 = .ok (.invokestatic 94, 3) := by decide +kernel
theorem d9_addPacket_74 : decode b9_addPacket 74 = .ok (.istore 4, 2) := by decide +kernel
theorem d9_addPacket_76 : decode b9_addPacket 76 = .ok (.aload_n 0, 1) := by decide +kernel
theorem d9_addPacket_77 : decode b9_addPacket 77 = .ok (.getfield 28, 3) := by decide +kernel
theorem d9_addPacket_80 : decode b9_addPacket 80 = .ok (.iload_n 2, 1) := by decide +kernel
theorem d9_addPacket_81 : decode b9_addPacket 81 = .ok (.iconst 4, 1) := by decide +kernel
theorem d9_addPacket_82 : decode b9_addPacket 82 = .ok (.imul, 1) := by decide +kernel
theorem d9_addPacket_83 : decode b9_addPacket 83 = .ok (.iload_n 3, 1) := by decide +kernel
theorem d9_addPacket_84 : decode b9_addPacket 84 = .ok (.iadd, 1) := by decide +kernel
theorem d9_addPacket_85 : decode b9_addPacket 85 = .ok (.iload 4, 2) := by decide +kernel
theorem d9_addPacket_87 : decode b9_addPacket 87 = .ok (.iastore, 1) := by decide +kernel
theorem d9_addPacket_88 : decode b9_addPacket 88 = .ok (.iload 4, 2) := by decide +kernel
theorem d9_addPacket_90 : decode b9_addPacket 90 = .ok (.iconst 1, 1) := by decide +kernel
theorem d9_addPacket_91 : decode b9_addPacket 91 = .ok (.if_icmp .ne 13, 3) := by decide +kernel
theorem d9_addPacket_94 : decode b9_addPacket 94 = .ok (.aload_n 0, 1) := by decide +kernel
theorem d9_addPacket_95 : decode b9_addPacket 95 = .ok (.getfield 19, 3) := by decide +kernel
theorem d9_addPacket_98 : decode b9_addPacket 98 = .ok (.iload_n 2, 1) := by decide +kernel
theorem d9_addPacket_99 : decode b9_addPacket 99 = .ok (.iload_n 3, 1) := by decide +kernel
theorem d9_addPacket_100 : decode b9_addPacket 100 = .ok (.iastore, 1) := by decide +kernel
theorem d9_addPacket_101 : decode b9_addPacket 101 = .ok (.goto 15, 3) := by decide +kernel
theorem d9_addPacket_104 : decode b9_addPacket 104 = .ok (.iload 4, 2) := by decide +kernel
theorem d9_addPacket_106 : decode b9_addPacket 106 = .ok (.iconst 2, 1) := by decide +kernel
theorem d9_addPacket_107 : decode b9_addPacket 107 = .ok (.if_icmp .ne 9, 3) := by decide +kernel
theorem d9_addPacket_110 : decode b9_addPacket 110 = .ok (.aload_n 0, 1) := by decide +kernel
theorem d9_addPacket_111 : decode b9_addPacket 111 = .ok (.iload_n 2, 1) := by decide +kernel
theorem d9_addPacket_112 : decode b9_addPacket 112 = .ok (.iload_n 3, 1) := by decide +kernel
theorem d9_addPacket_113 : decode b9_addPacket 113 = .ok (.invokevirtual 103, 3) := by decide +kernel
theorem d9_addPacket_116 : decode b9_addPacket 116 = .ok (.iinc 3 (-1), 3) := by decide +kernel
theorem d9_addPacket_119 : decode b9_addPacket 119 = .ok (.goto (-65), 3) := by decide +kernel
theorem d9_addPacket_122 : decode b9_addPacket 122 = .ok (.aload_n 0, 1) := by decide +kernel
theorem d9_addPacket_123 : decode b9_addPacket 123 = .ok (.getfield 34, 3) := by decide +kernel
theorem d9_addPacket_126 : decode b9_addPacket 126 = .ok (.bipush 12, 2) := by decide +kernel
theorem d9_addPacket_128 : decode b9_addPacket 128 = .ok (.if_icmp .ge 23, 3) := by decide +kernel
theorem d9_addPacket_131 : decode b9_addPacket 131 = .ok (.aload_n 0, 1) := by decide +kernel
theorem d9_addPacket_132 : decode b9_addPacket 132 = .ok (.getfield 31, 3) := by decide +kernel
theorem d9_addPacket_135 : decode b9_addPacket 135 = .ok (.aload_n 0, 1) := by decide +kernel
theorem d9_addPacket_136 : decode b9_addPacket 136 = .ok (.getfield 34, 3) := by decide +kernel
theorem d9_addPacket_139 : decode b9_addPacket 139 = .ok (.iload_n 2, 1) := by decide +kernel
theorem d9_addPacket_140 : decode b9_addPacket 140 = .ok (.iastore, 1) := by decide +kernel
theorem d9_addPacket_141 : decode b9_addPacket 141 = .ok (.aload_n 0, 1) := by decide +kernel
theorem d9_addPacket_142 : decode b9_addPacket 142 = .ok (.dup, 1) := by decide +kernel
theorem d9_addPacket_143 : decode b9_addPacket 143 = .ok (.getfield 34, 3) := by decide +kernel
theorem d9_addPacket_146 : decode b9_addPacket 146 = .ok (.iconst 1, 1) := by decide +kernel
theorem d9_addPacket_147 : decode b9_addPacket 147 = .ok (.iadd, 1) := by decide +kernel
theorem d9_addPacket_148 : decode b9_addPacket 148 = .ok (.putfield 34, 3) := by decide +kernel
theorem d9_addPacket_151 : decode b9_addPacket 151 = .ok (.aload_n 0, 1) := by decide +kernel
theorem d9_addPacket_152 : decode b9_addPacket 152 = .ok (.dup, 1) := by decide +kernel
theorem d9_addPacket_153 : decode b9_addPacket 153 = .ok (.getfield 9, 3) := by decide +kernel
theorem d9_addPacket_156 : decode b9_addPacket 156 = .ok (.iconst 1, 1) := by decide +kernel
theorem d9_addPacket_157 : decode b9_addPacket 157 = .ok (.iadd, 1) := by decide +kernel
theorem d9_addPacket_158 : decode b9_addPacket 158 = .ok (.putfield 9, 3) := by decide +kernel
theorem d9_addPacket_161 : decode b9_addPacket 161 = .ok (.return_, 1) := by decide +kernel
theorem fl_9_9 : Cond.fieldLink cn_9 9 (ft_9 0).1 (ft_9 0).2.1 (ft_9 0).2.2.1 ∈ ce_cm := ce_cm_of (List.mem_of_getElem? (i := 270) (by decide +kernel)) (by decide +kernel)
theorem gf_9_9 (C : ce_Cx p s m args c meth cc nL ret cn_9 D ad cA B0 (ce_St aK aV B0)) (hH : ce_H D ad cA B0 X s h H locs) {k : Nat} (hk : ce_isTold k) (hdg : decode cc pc = .ok (.getfield 9, 3)) (kk : W p l e0 R s m args below meth c H locs cells slots Q (F0 m (pc + 3) ls (.int (h k 0) :: rest))) : W p l e0 R s m args below meth c H locs cells slots Q (F0 m pc ls (.ref (ad k) :: rest)) := by
  rcases hk with rfl | rfl
  · exact ce_get C hH (k := 21) (ci := 9) (j := 0) (N := 9) (sj := none) (by decide) rfl rfl fw_9 (by decide) fl_9_9 rfl hdg kk
  · exact ce_get C hH (k := 28) (ci := 9) (j := 0) (N := 9) (sj := none) (by decide) rfl rfl fw_9 (by decide) fl_9_9 rfl hdg kk
theorem pf_9_9 (C : ce_Cx p s m args c meth cc nL ret cn_9 D ad cA B0 (ce_St aK aV B0)) (hH : ce_H D ad cA B0 X s h H locs) {k : Nat} (hk : ce_isTold k) {x : Int32} (hdg : decode cc pc = .ok (.putfield 9, 3)) (kk : ∀ (H1 : Heap) (locs1 : List Loc), ce_H D ad cA B0 X s (hp_up h k 0 x) H1 locs1 → W p l e0 R s m args below meth c H1 locs1 cells slots Q (F0 m (pc + 3) ls rest)) : W p l e0 R s m args below meth c H locs cells slots Q (F0 m pc ls (.int x :: .ref (ad k) :: rest)) := by
  rcases hk with rfl | rfl
  · exact ce_put C hH (k := 21) (ci := 9) (j := 0) (N := 9) (fy := fy_9) (sj := none) x (by decide) rfl rfl fw_9 fo_9 fn_9 (by decide) fl_9_9 rfl rfl (v := .int x) (by simp [ce_slot, upd]) rfl rfl hdg kk
  · exact ce_put C hH (k := 28) (ci := 9) (j := 0) (N := 9) (fy := fy_9) (sj := none) x (by decide) rfl rfl fw_9 fo_9 fn_9 (by decide) fl_9_9 rfl rfl (v := .int x) (by simp [ce_slot, upd]) rfl rfl hdg kk
theorem fl_9_25 : Cond.fieldLink cn_9 25 (ft_9 4).1 (ft_9 4).2.1 (ft_9 4).2.2.1 ∈ ce_cm := ce_cm_of (List.mem_of_getElem? (i := 278) (by decide +kernel)) (by decide +kernel)
theorem gf_9_25 (C : ce_Cx p s m args c meth cc nL ret cn_9 D ad cA B0 (ce_St aK aV B0)) (hH : ce_H D ad cA B0 X s h H locs) {k : Nat} (hk : ce_isTold k) (hdg : decode cc pc = .ok (.getfield 25, 3)) (kk : W p l e0 R s m args below meth c H locs cells slots Q (F0 m (pc + 3) ls (.ref (ad (k + 4)) :: rest))) : W p l e0 R s m args below meth c H locs cells slots Q (F0 m pc ls (.ref (ad k) :: rest)) := by
  rcases hk with rfl | rfl
  · exact ce_get C hH (k := 21) (ci := 9) (j := 4) (N := 9) (sj := some (some 25)) (by decide) rfl rfl fw_9 (by decide) fl_9_25 rfl hdg kk
  · exact ce_get C hH (k := 28) (ci := 9) (j := 4) (N := 9) (sj := some (some 32)) (by decide) rfl rfl fw_9 (by decide) fl_9_25 rfl hdg kk
theorem la_Told_4 {k : Nat} (hk : ce_isTold k) : k + 4 < 96 ∧ ce_lay (k + 4) = .inl (0, 12) := by rcases hk with rfl | rfl <;> exact ⟨by decide, rfl⟩
theorem ml_9_97 : Cond.methodLink cn_9 97 Lib.Math.min.name ∈ ce_cm := ce_cm_of (List.mem_of_getElem? (i := 973) (by decide +kernel)) (by decide +kernel)
theorem fl_9_19 : Cond.fieldLink cn_9 19 (ft_9 2).1 (ft_9 2).2.1 (ft_9 2).2.2.1 ∈ ce_cm := ce_cm_of (List.mem_of_getElem? (i := 274) (by decide +kernel)) (by decide +kernel)
theorem gf_9_19 (C : ce_Cx p s m args c meth cc nL ret cn_9 D ad cA B0 (ce_St aK aV B0)) (hH : ce_H D ad cA B0 X s h H locs) {k : Nat} (hk : ce_isTold k) (hdg : decode cc pc = .ok (.getfield 19, 3)) (kk : W p l e0 R s m args below meth c H locs cells slots Q (F0 m (pc + 3) ls (.ref (ad (k + 2)) :: rest))) : W p l e0 R s m args below meth c H locs cells slots Q (F0 m pc ls (.ref (ad k) :: rest)) := by
  rcases hk with rfl | rfl
  · exact ce_get C hH (k := 21) (ci := 9) (j := 2) (N := 9) (sj := some (some 23)) (by decide) rfl rfl fw_9 (by decide) fl_9_19 rfl hdg kk
  · exact ce_get C hH (k := 28) (ci := 9) (j := 2) (N := 9) (sj := some (some 30)) (by decide) rfl rfl fw_9 (by decide) fl_9_19 rfl hdg kk
theorem la_Told_2 {k : Nat} (hk : ce_isTold k) : k + 2 < 96 ∧ ce_lay (k + 2) = .inl (0, 12) := by rcases hk with rfl | rfl <;> exact ⟨by decide, rfl⟩
theorem fl_9_28 : Cond.fieldLink cn_9 28 (ft_9 5).1 (ft_9 5).2.1 (ft_9 5).2.2.1 ∈ ce_cm := ce_cm_of (List.mem_of_getElem? (i := 279) (by decide +kernel)) (by decide +kernel)
theorem gf_9_28 (C : ce_Cx p s m args c meth cc nL ret cn_9 D ad cA B0 (ce_St aK aV B0)) (hH : ce_H D ad cA B0 X s h H locs) {k : Nat} (hk : ce_isTold k) (hdg : decode cc pc = .ok (.getfield 28, 3)) (kk : W p l e0 R s m args below meth c H locs cells slots Q (F0 m (pc + 3) ls (.ref (ad (k + 5)) :: rest))) : W p l e0 R s m args below meth c H locs cells slots Q (F0 m pc ls (.ref (ad k) :: rest)) := by
  rcases hk with rfl | rfl
  · exact ce_get C hH (k := 21) (ci := 9) (j := 5) (N := 9) (sj := some (some 26)) (by decide) rfl rfl fw_9 (by decide) fl_9_28 rfl hdg kk
  · exact ce_get C hH (k := 28) (ci := 9) (j := 5) (N := 9) (sj := some (some 33)) (by decide) rfl rfl fw_9 (by decide) fl_9_28 rfl hdg kk
theorem la_Told_5 {k : Nat} (hk : ce_isTold k) : k + 5 < 96 ∧ ce_lay (k + 5) = .inl (0, 48) := by rcases hk with rfl | rfl <;> exact ⟨by decide, rfl⟩
theorem lk_Told {k : Nat} (hk : ce_isTold k) : k < 96 ∧ ∃ sl, ce_lay k = .inr (9, sl) := by rcases hk with rfl | rfl <;> exact ⟨by decide, _, rfl⟩
theorem mc9_adopt : Cond.code y9_adopt b9_adopt 3 none ∈ ce_cm := ce_cm_of (List.mem_of_getElem? (i := 977) (by decide +kernel)) (by decide +kernel)
theorem ml_9_103 : Cond.methodLink cn_9 103 y9_adopt ∈ ce_cm := ce_cm_of (List.mem_of_getElem? (i := 974) (by decide +kernel)) (by decide +kernel)
theorem mi9_adopt : Cond.instanceMethod y9_adopt ∈ ce_cm := ce_cm_of (List.mem_of_getElem? (i := 976) (by decide +kernel)) (by decide +kernel)
theorem ms9_adopt : Cond.selects cn_9 y9_adopt y9_adopt ∈ ce_cm := ce_cm_of (List.mem_of_getElem? (i := 26) (by decide +kernel)) (by decide +kernel)
def f9_addPacket_b54 (F : Nat) (k0 : Nat) (x2 : Int32) (x3 : Int32) (h : Hp) : Option ((Int32 × Hp) ⊕ (Hp)) :=
  if x3 < 0 then
    some (.inr h)
  else
    Option.bind (f7_byteAt F ((h 1 2) + x3) h) (fun o68 =>
      Option.bind (f9_letterOfSign F o68.1 o68.2) (fun o71 =>
        if ce_in ((x2 * (4 : Int32)) + x3) 48 = true then
          ce_nm (hp_up o71.2 (k0 + 5) (((x2 * (4 : Int32)) + x3)).toNatClampNeg o71.1) (fun h_87 =>
            if o71.1 = (1 : Int32) then
              if ce_in x2 12 = true then
                ce_nm (hp_up h_87 (k0 + 2) (x2).toNatClampNeg x3) (fun h_100 =>
                  some (.inl (x3 + (-1 : Int32), h_100)))
              else none
            else
              if o71.1 = (2 : Int32) then
                Option.bind (f9_adopt F k0 x2 x3 h_87) (fun o113 =>
                  some (.inl (x3 + (-1 : Int32), o113)))
              else
                some (.inl (x3 + (-1 : Int32), h_87)))
        else none))
set_option maxRecDepth 20000 in
theorem l9_addPacket_54 (C : ce_Cx p s m args c meth b9_addPacket 5 none cn_9 D ad cA B0 (ce_St aK aV B0)) (F : Nat) (k0 : Nat) (x2 : Int32) (hk0 : ce_isTold k0) (r : Hp) (g : (Hp) → Option (Hp)) (hx : ∀  (h : Hp) (H : Heap) (locs : List Loc) (ls : Array Slot), ce_H D ad cA B0 [] s h H locs → lv_has ls 5 [(0, .ref (ad k0)), (2, .int x2)] → g h = some r → W p l e0 { frames := 1, cells := 0, slots := 0, locals := 24 } s m args below meth c H locs 0 0 (MQ below (ce_Q D ad cA B0 (ce_St aK aV B0) none r) args s 0 0 (fun q => B0 ≤ q)) (F0 m 122 ls [])) : ∀ (n : Nat) (x3 : Int32) (h : Hp) (H : Heap) (locs : List Loc) (ls : Array Slot), ce_H D ad cA B0 [] s h H locs → lv_has ls 5 [(0, .ref (ad k0)), (1, .ref (ad 1)), (2, .int x2), (3, .int x3)] → Option.bind (ce_it (fun (st : Int32 × Hp) => f9_addPacket_b54 F k0 x2 st.1 st.2) n (x3, h)) g = some r → W p l e0 { frames := 1, cells := 0, slots := 0, locals := 24 } s m args below meth c H locs 0 0 (MQ below (ce_Q D ad cA B0 (ce_St aK aV B0) none r) args s 0 0 (fun q => B0 ≤ q)) (F0 m 54 ls []) := by
  intro n
  induction n with
  | zero =>
    intro x3 h H locs ls hH hl e
    exact absurd e (fun z => by cases z)
  | succ n ih =>
    intro x3 h H locs ls hH hl e
    have hx9 := C.1
    have hb := C.2.1
    have e : Option.bind (f9_addPacket_b54 F k0 x2 x3 h) _ = some r := ce_it_bd e
    unfold f9_addPacket_b54 at e
    refine lv_iload_n hx9 hb d9_addPacket_54 rfl (lv_at hl 3 rfl) ?_
    refine lv_if_lt (tgt := 122) hx9 hb d9_addPacket_55 (by decide) (fun hc55 => ?_) (fun hc55 => ?_)
    · have e := ce_if1 e hc55
      exact hx  h _ _ _ hH (lv_sub hl [0, 2] rfl) e
    · have e := ce_if0 e hc55
      refine lv_aload_n hx9 hb d9_addPacket_58 rfl (lv_at hl 1 rfl) ?_
      refine gf_9_84 C hH d9_addPacket_59 ?_
      refine lv_aload_n hx9 hb d9_addPacket_62 rfl (lv_at hl 1 rfl) ?_
      refine gf_9_78 C hH d9_addPacket_63 ?_
      refine lv_iload_n hx9 hb d9_addPacket_66 rfl (lv_at hl 3 rfl) ?_
      refine lv_iadd hx9 hb d9_addPacket_67 ?_
      obtain ⟨o68, eo68, e⟩ := ce_bd e
      refine ce_callV (As := [.int ((h 1 2) + x3)]) (rest := []) C (ce_sok aK aV B0) hH (c7_byteAt l D ad cA aK aV B0 C.2.2.2.2.2.2.1 F ((h 1 2) + x3)  h o68 eo68) lo_2.1 lo_2.2.choose_spec rfl rfl mc7_byteAt ml_9_88 mi7_byteAt ms7_byteAt mI_7 (n := 1) (by decide) rfl ⟨Nat.le_of_ble_eq_true rfl, Nat.le_of_ble_eq_true rfl⟩ ⟨Nat.le_of_ble_eq_true rfl, Nat.le_of_ble_eq_true rfl⟩ hl.1 rfl (Nat.le_of_ble_eq_true rfl) d9_addPacket_68 (fun H locs hH => ?_)
      refine W.eq (g2 := F0 m 71 ls [.int o68.1]) rfl ?_
      obtain ⟨o71, eo71, e⟩ := ce_bd e
      refine ce_callS (As := [.int o68.1]) (rest := []) C (ce_sok aK aV B0) hH (c9_letterOfSign l D ad cA aK aV B0 C.2.2.2.2.2.2.1 F o68.1  o68.2 o71 eo71) mc9_letterOfSign ml_9_94 mt9_letterOfSign mI_9 (n := 1) (by decide) rfl ⟨Nat.le_of_ble_eq_true rfl, Nat.le_of_ble_eq_true rfl⟩ ⟨Nat.le_of_ble_eq_true rfl, Nat.le_of_ble_eq_true rfl⟩ hl.1 rfl (Nat.le_of_ble_eq_true rfl) d9_addPacket_71 (fun H locs hH => ?_)
      refine W.eq (g2 := F0 m 74 ls [.int o71.1]) rfl ?_
      refine lv_istore (lv' := [(4, .int o71.1), (0, .ref (ad k0)), (1, .ref (ad 1)), (2, .int x2), (3, .int x3)]) hx9 hb d9_addPacket_74 hl (by decide) rfl (fun ls hl => ?_)
      refine lv_aload_n hx9 hb d9_addPacket_76 rfl (lv_at hl 1 rfl) ?_
      refine gf_9_28 C hH hk0 d9_addPacket_77 ?_
      refine lv_iload_n hx9 hb d9_addPacket_80 rfl (lv_at hl 3 rfl) ?_
      refine lv_iconst (v := (4 : Int32)) hx9 hb d9_addPacket_81 (by decide) ?_
      refine lv_imul hx9 hb d9_addPacket_82 ?_
      refine lv_iload_n hx9 hb d9_addPacket_83 rfl (lv_at hl 4 rfl) ?_
      refine lv_iadd hx9 hb d9_addPacket_84 ?_
      refine lv_iload hx9 hb d9_addPacket_85 (lv_at hl 0 rfl) ?_
      obtain ⟨hi87, e⟩ := ce_gd e
      refine ce_iast C hH (la_Told_5 hk0).1 (la_Told_5 hk0).2 (ce_in_vp hi87) d9_addPacket_87 (fun H locs hH => ?_)
      obtain ⟨h_87, eh_87, e⟩ := ce_nmE e
      rw [← eh_87] at hH
      refine lv_iload hx9 hb d9_addPacket_88 (lv_at hl 0 rfl) ?_
      refine lv_iconst (v := (1 : Int32)) hx9 hb d9_addPacket_90 (by decide) ?_
      refine lv_icmp_ne (tgt := 104) hx9 hb d9_addPacket_91 (by decide) (fun hc91 => ?_) (fun hc91 => ?_)
      · have e := ce_if0 e hc91
        refine lv_iload hx9 hb d9_addPacket_104 (lv_at hl 0 rfl) ?_
        refine lv_iconst (v := (2 : Int32)) hx9 hb d9_addPacket_106 (by decide) ?_
        refine lv_icmp_ne (tgt := 116) hx9 hb d9_addPacket_107 (by decide) (fun hc107 => ?_) (fun hc107 => ?_)
        · have e := ce_if0 e hc107
          refine lv_iinc (v := x3 + (-1 : Int32)) (lv' := [(3, .int (x3 + (-1 : Int32))), (4, .int o71.1), (0, .ref (ad k0)), (1, .ref (ad 1)), (2, .int x2)]) hx9 hb d9_addPacket_116 hl (k := 4) rfl rfl (by decide) rfl (fun ls hl => ?_)
          refine lv_goto (tgt := 54) hx9 hb d9_addPacket_119 (by decide) ?_
          exact ih (x3 + (-1 : Int32)) h_87 _ _ _ hH (lv_sub hl [2, 3, 4, 0] rfl) e
        · have e := ce_if1 e hc107
          refine lv_aload_n hx9 hb d9_addPacket_110 rfl (lv_at hl 1 rfl) ?_
          refine lv_iload_n hx9 hb d9_addPacket_111 rfl (lv_at hl 3 rfl) ?_
          refine lv_iload_n hx9 hb d9_addPacket_112 rfl (lv_at hl 4 rfl) ?_
          obtain ⟨o113, eo113, e⟩ := ce_bd e
          refine ce_callV (As := [.int x2, .int x3]) (rest := []) C (ce_sok aK aV B0) hH (c9_adopt l D ad cA aK aV B0 C.2.2.2.2.2.2.1 F k0 x2 x3 hk0 h_87 o113 eo113) (lk_Told hk0).1 (lk_Told hk0).2.choose_spec rfl rfl mc9_adopt ml_9_103 mi9_adopt ms9_adopt mI_9 (n := 2) (by decide) rfl ⟨Nat.le_of_ble_eq_true rfl, Nat.le_of_ble_eq_true rfl⟩ ⟨Nat.le_of_ble_eq_true rfl, Nat.le_of_ble_eq_true rfl⟩ hl.1 rfl (Nat.le_of_ble_eq_true rfl) d9_addPacket_113 (fun H locs hH => ?_)
          refine W.eq (g2 := F0 m 116 ls []) rfl ?_
          refine lv_iinc (v := x3 + (-1 : Int32)) (lv' := [(3, .int (x3 + (-1 : Int32))), (4, .int o71.1), (0, .ref (ad k0)), (1, .ref (ad 1)), (2, .int x2)]) hx9 hb d9_addPacket_116 hl (k := 4) rfl rfl (by decide) rfl (fun ls hl => ?_)
          refine lv_goto (tgt := 54) hx9 hb d9_addPacket_119 (by decide) ?_
          exact ih (x3 + (-1 : Int32)) o113 _ _ _ hH (lv_sub hl [2, 3, 4, 0] rfl) e
      · have e := ce_if1 e hc91
        refine lv_aload_n hx9 hb d9_addPacket_94 rfl (lv_at hl 1 rfl) ?_
        refine gf_9_19 C hH hk0 d9_addPacket_95 ?_
        refine lv_iload_n hx9 hb d9_addPacket_98 rfl (lv_at hl 3 rfl) ?_
        refine lv_iload_n hx9 hb d9_addPacket_99 rfl (lv_at hl 4 rfl) ?_
        obtain ⟨hi100, e⟩ := ce_gd e
        refine ce_iast C hH (la_Told_2 hk0).1 (la_Told_2 hk0).2 (ce_in_vp hi100) d9_addPacket_100 (fun H locs hH => ?_)
        obtain ⟨h_100, eh_100, e⟩ := ce_nmE e
        rw [← eh_100] at hH
        refine lv_goto (tgt := 116) hx9 hb d9_addPacket_101 (by decide) ?_
        refine lv_iinc (v := x3 + (-1 : Int32)) (lv' := [(3, .int (x3 + (-1 : Int32))), (4, .int o71.1), (0, .ref (ad k0)), (1, .ref (ad 1)), (2, .int x2)]) hx9 hb d9_addPacket_116 hl (k := 4) rfl rfl (by decide) rfl (fun ls hl => ?_)
        refine lv_goto (tgt := 54) hx9 hb d9_addPacket_119 (by decide) ?_
        exact ih (x3 + (-1 : Int32)) h_100 _ _ _ hH (lv_sub hl [2, 3, 4, 0] rfl) e
def f9_addPacket (F : Nat) (k0 : Nat) (h : Hp) : Option (Hp) :=
  if ce_in (h k0 0) 12 = true then
    ce_nm (hp_up h (k0 + 4) ((h k0 0)).toNatClampNeg (if (4 : Int32) < ((h 1 3) - (h 1 2)) then (4 : Int32) else ((h 1 3) - (h 1 2)))) (fun h_23 =>
      if ce_in (h k0 0) 12 = true then
        ce_nm (hp_up h_23 (k0 + 1) ((h k0 0)).toNatClampNeg (-1 : Int32)) (fun h_30 =>
          if ce_in (h k0 0) 12 = true then
            ce_nm (hp_up h_30 (k0 + 2) ((h k0 0)).toNatClampNeg (-1 : Int32)) (fun h_37 =>
              if ce_in (h k0 0) 12 = true then
                ce_nm (hp_up h_37 (k0 + 3) ((h k0 0)).toNatClampNeg (-1 : Int32)) (fun h_44 =>
                  if ce_in (h k0 0) 12 = true then
                    Option.bind (ce_it (fun (st : Int32 × Hp) => f9_addPacket_b54 F k0 (h k0 0) st.1 st.2) F ((h_44 (k0 + 4) ((h k0 0)).toNatClampNeg) - (1 : Int32), h_44)) (fun o54 =>
                      if (12 : Int32) ≤ (o54 k0 7) then
                        ce_nm (hp_up o54 k0 0 ((o54 k0 0) + (1 : Int32))) (fun h_158 =>
                          some h_158)
                      else
                        if ce_in (o54 k0 7) 12 = true then
                          ce_nm (hp_up o54 (k0 + 6) ((o54 k0 7)).toNatClampNeg (h k0 0)) (fun h_140 =>
                            ce_nm (hp_up h_140 k0 7 ((h_140 k0 7) + (1 : Int32))) (fun h_148 =>
                              ce_nm (hp_up h_148 k0 0 ((h_148 k0 0) + (1 : Int32))) (fun h_158 =>
                                some h_158)))
                        else none)
                  else none)
              else none)
          else none)
      else none)
  else none
set_option maxRecDepth 20000 in
theorem c9_addPacket (l : Launch) (D : va_G) (ad : Nat → Nat) (cA : Nat → ClassId) (aK aV : Nat → Nat) (B0 : Nat) (hA : ce_Ad ad B0) (F : Nat) (k0 : Nat) (hk0 : ce_isTold k0) (h : Hp) (r : Hp) (e : f9_addPacket F k0 h = some r) : ce_Ct l D ad cA B0 (ce_St aK aV B0) y9_addPacket b9_addPacket 5 none 1 24 0 0 [.ref (ad k0), .ref (ad 1)] h none r := by
  refine ce_enter hA (by decide) rfl (Nat.le_of_ble_eq_true rfl) (fun p e0 s m below meth c ls C hH hl => ?_)
  have hl : lv_has ls 5 [(0, .ref (ad k0)), (1, .ref (ad 1))] := hl
  have hx := C.1
  have hb := C.2.1
  have e : Option.bind _ some = some r := (congrArg (fun z => Option.bind z some) e).trans rfl
  unfold f9_addPacket at e
  refine lv_aload_n hx hb d9_addPacket_0 rfl (lv_at hl 0 rfl) ?_
  refine gf_9_9 C hH hk0 d9_addPacket_1 ?_
  refine lv_istore_n (lv' := [(2, .int (h k0 0)), (0, .ref (ad k0)), (1, .ref (ad 1))]) hx hb d9_addPacket_4 rfl hl (by decide) rfl (fun ls hl => ?_)
  refine lv_aload_n hx hb d9_addPacket_5 rfl (lv_at hl 1 rfl) ?_
  refine gf_9_25 C hH hk0 d9_addPacket_6 ?_
  refine lv_iload_n hx hb d9_addPacket_9 rfl (lv_at hl 0 rfl) ?_
  refine lv_aload_n hx hb d9_addPacket_10 rfl (lv_at hl 2 rfl) ?_
  refine gf_9_75 C hH d9_addPacket_11 ?_
  refine lv_aload_n hx hb d9_addPacket_14 rfl (lv_at hl 2 rfl) ?_
  refine gf_9_78 C hH d9_addPacket_15 ?_
  refine lv_isub hx hb d9_addPacket_18 ?_
  refine lv_iconst (v := (4 : Int32)) hx hb d9_addPacket_19 (by decide) ?_
  refine va_mmin hx hb (C.2.2.1.trans hl.1.symm) C.2.2.2.1 (C.2.2.2.2.1 _ ml_9_97) (C.2.2.2.2.1 _ mt_Mmin) (C.2.2.2.2.1 _ mI_M) (C.2.2.2.2.1 _ mc_Mmin) (Nat.le_of_ble_eq_true rfl) (Nat.le_of_ble_eq_true rfl) (Nat.le_of_ble_eq_true rfl) (Nat.le_of_ble_eq_true rfl) d9_addPacket_20 ?_
  obtain ⟨hi23, e⟩ := ce_gd e
  refine ce_iast C hH (la_Told_4 hk0).1 (la_Told_4 hk0).2 (ce_in_vp hi23) d9_addPacket_23 (fun H locs hH => ?_)
  obtain ⟨h_23, eh_23, e⟩ := ce_nmE e
  rw [← eh_23] at hH
  refine lv_aload_n hx hb d9_addPacket_24 rfl (lv_at hl 1 rfl) ?_
  refine gf_9_15 C hH hk0 d9_addPacket_25 ?_
  refine lv_iload_n hx hb d9_addPacket_28 rfl (lv_at hl 0 rfl) ?_
  refine lv_iconst (v := (-1 : Int32)) hx hb d9_addPacket_29 (by decide) ?_
  obtain ⟨hi30, e⟩ := ce_gd e
  refine ce_iast C hH (la_Told_1 hk0).1 (la_Told_1 hk0).2 (ce_in_vp hi30) d9_addPacket_30 (fun H locs hH => ?_)
  obtain ⟨h_30, eh_30, e⟩ := ce_nmE e
  rw [← eh_30] at hH
  refine lv_aload_n hx hb d9_addPacket_31 rfl (lv_at hl 1 rfl) ?_
  refine gf_9_19 C hH hk0 d9_addPacket_32 ?_
  refine lv_iload_n hx hb d9_addPacket_35 rfl (lv_at hl 0 rfl) ?_
  refine lv_iconst (v := (-1 : Int32)) hx hb d9_addPacket_36 (by decide) ?_
  obtain ⟨hi37, e⟩ := ce_gd e
  refine ce_iast C hH (la_Told_2 hk0).1 (la_Told_2 hk0).2 (ce_in_vp hi37) d9_addPacket_37 (fun H locs hH => ?_)
  obtain ⟨h_37, eh_37, e⟩ := ce_nmE e
  rw [← eh_37] at hH
  refine lv_aload_n hx hb d9_addPacket_38 rfl (lv_at hl 1 rfl) ?_
  refine gf_9_22 C hH hk0 d9_addPacket_39 ?_
  refine lv_iload_n hx hb d9_addPacket_42 rfl (lv_at hl 0 rfl) ?_
  refine lv_iconst (v := (-1 : Int32)) hx hb d9_addPacket_43 (by decide) ?_
  obtain ⟨hi44, e⟩ := ce_gd e
  refine ce_iast C hH (la_Told_3 hk0).1 (la_Told_3 hk0).2 (ce_in_vp hi44) d9_addPacket_44 (fun H locs hH => ?_)
  obtain ⟨h_44, eh_44, e⟩ := ce_nmE e
  rw [← eh_44] at hH
  refine lv_aload_n hx hb d9_addPacket_45 rfl (lv_at hl 1 rfl) ?_
  refine gf_9_25 C hH hk0 d9_addPacket_46 ?_
  refine lv_iload_n hx hb d9_addPacket_49 rfl (lv_at hl 0 rfl) ?_
  obtain ⟨hi50, e⟩ := ce_gd e
  refine ce_iald C hH (la_Told_4 hk0).1 (la_Told_4 hk0).2 (ce_in_vp hi50) d9_addPacket_50 ?_
  refine lv_iconst (v := (1 : Int32)) hx hb d9_addPacket_51 (by decide) ?_
  refine lv_isub hx hb d9_addPacket_52 ?_
  refine lv_istore_n (lv' := [(3, .int ((h_44 (k0 + 4) ((h k0 0)).toNatClampNeg) - (1 : Int32))), (2, .int (h k0 0)), (0, .ref (ad k0)), (1, .ref (ad 1))]) hx hb d9_addPacket_53 rfl hl (by decide) rfl (fun ls hl => ?_)
  refine l9_addPacket_54 C F k0 (h k0 0) hk0 r _ (fun  h_54 H locs ls hH hl e => ?_) F ((h_44 (k0 + 4) ((h k0 0)).toNatClampNeg) - (1 : Int32)) h_44 _ _ _ hH (lv_sub hl [2, 3, 1, 0] rfl) (ce_as e)
  try dsimp only at e
  refine lv_aload_n hx hb d9_addPacket_122 rfl (lv_at hl 0 rfl) ?_
  refine gf_9_34 C hH hk0 d9_addPacket_123 ?_
  refine lv_bipush (v := (12 : Int32)) hx hb d9_addPacket_126 (by decide) ?_
  refine lv_icmp_ge (tgt := 151) hx hb d9_addPacket_128 (by decide) (fun hc128 => ?_) (fun hc128 => ?_)
  · have e := ce_if1 e hc128
    refine lv_aload_n hx hb d9_addPacket_151 rfl (lv_at hl 0 rfl) ?_
    refine lv_dup hx hb d9_addPacket_152 rfl ?_
    refine gf_9_9 C hH hk0 d9_addPacket_153 ?_
    refine lv_iconst (v := (1 : Int32)) hx hb d9_addPacket_156 (by decide) ?_
    refine lv_iadd hx hb d9_addPacket_157 ?_
    refine pf_9_9 C hH hk0 d9_addPacket_158 (fun H locs hH => ?_)
    obtain ⟨h_158, eh_158, e⟩ := ce_nmE e
    rw [← eh_158] at hH
    exact ce_vret C (ce_sok aK aV B0) hH (Option.some.inj e) d9_addPacket_161
  · have e := ce_if0 e hc128
    refine lv_aload_n hx hb d9_addPacket_131 rfl (lv_at hl 0 rfl) ?_
    refine gf_9_31 C hH hk0 d9_addPacket_132 ?_
    refine lv_aload_n hx hb d9_addPacket_135 rfl (lv_at hl 0 rfl) ?_
    refine gf_9_34 C hH hk0 d9_addPacket_136 ?_
    refine lv_iload_n hx hb d9_addPacket_139 rfl (lv_at hl 1 rfl) ?_
    obtain ⟨hi140, e⟩ := ce_gd e
    refine ce_iast C hH (la_Told_6 hk0).1 (la_Told_6 hk0).2 (ce_in_vp hi140) d9_addPacket_140 (fun H locs hH => ?_)
    obtain ⟨h_140, eh_140, e⟩ := ce_nmE e
    rw [← eh_140] at hH
    refine lv_aload_n hx hb d9_addPacket_141 rfl (lv_at hl 0 rfl) ?_
    refine lv_dup hx hb d9_addPacket_142 rfl ?_
    refine gf_9_34 C hH hk0 d9_addPacket_143 ?_
    refine lv_iconst (v := (1 : Int32)) hx hb d9_addPacket_146 (by decide) ?_
    refine lv_iadd hx hb d9_addPacket_147 ?_
    refine pf_9_34 C hH hk0 d9_addPacket_148 (fun H locs hH => ?_)
    obtain ⟨h_148, eh_148, e⟩ := ce_nmE e
    rw [← eh_148] at hH
    refine lv_aload_n hx hb d9_addPacket_151 rfl (lv_at hl 0 rfl) ?_
    refine lv_dup hx hb d9_addPacket_152 rfl ?_
    refine gf_9_9 C hH hk0 d9_addPacket_153 ?_
    refine lv_iconst (v := (1 : Int32)) hx hb d9_addPacket_156 (by decide) ?_
    refine lv_iadd hx hb d9_addPacket_157 ?_
    refine pf_9_9 C hH hk0 d9_addPacket_158 (fun H locs hH => ?_)
    obtain ⟨h_158, eh_158, e⟩ := ce_nmE e
    rw [← eh_158] at hH
    exact ce_vret C (ce_sok aK aV B0) hH (Option.some.inj e) d9_addPacket_161
end C5
