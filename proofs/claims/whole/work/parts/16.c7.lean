-- C7: functions and contracts, written by wip/whole/gen (mgen.py, walk.py, walk2.py) out of the bytecode
section C7
variable {p : Program} {l : Launch} {e0 : Env} {R : Room} {s : State} {m : MethodId} {args : Array Value} {below : List Frame} {meth : Method} {c : Code} {H : Heap} {locs : List Loc} {cells slots : Nat} {Q : State → Prop}
variable {cc : ByteArray} {pc nL : Nat} {ret : Option FieldType} {ls : Array Slot} {rest : List Value} {D : va_G} {ad : Nat → Nat} {cA : Nat → ClassId} {B0 : Nat} {X : va_W} {h : Hp} {aK aV : Nat → Nat}
abbrev b8_readNode : ByteArray := prog_10_method_4_code
def y8_readNode : MethodName := ⟨cn_8, "readNode", "(LCableElection$Reading;LCableElection$Net;)V"⟩
theorem d8_readNode_0 : decode b8_readNode 0 = .ok (.aload_n 2, 1) := by decide +kernel
theorem d8_readNode_1 : decode b8_readNode 1 = .ok (.getfield 79, 3) := by decide +kernel
theorem d8_readNode_4 : decode b8_readNode 4 = .ok (.bipush 10, 2) := by decide +kernel
theorem d8_readNode_6 : decode b8_readNode 6 = .ok (.if_icmp .lt 9, 3) := by decide +kernel
theorem d8_readNode_9 : decode b8_readNode 9 = .ok (.aload_n 1, 1) := by decide +kernel
theorem d8_readNode_10 : decode b8_readNode 10 = .ok (.iconst 3, 1) := by decide +kernel
theorem d8_readNode_11 : decode b8_readNode 11 = .ok (.invokevirtual 50, 3) := by decide +kernel
theorem d8_readNode_14 : decode b8_readNode 14 = .ok (.return_, 1) := by decide +kernel
theorem d8_readNode_15 : decode b8_readNode 15 = .ok (.aload_n 1, 1) := by decide +kernel
theorem d8_readNode_16 : decode b8_readNode 16 = .ok (.ldc 36, 2) := by decide +kernel
theorem d8_readNode_18 : decode b8_readNode 18 = .ok (.invokevirtual 63, 3) := by decide +kernel
theorem d8_readNode_21 : decode b8_readNode 21 = .ok (.aload_n 0, 1) := by decide +kernel
theorem d8_readNode_22 : decode b8_readNode 22 = .ok (.aload_n 1, 1) := by decide +kernel
theorem d8_readNode_23 : decode b8_readNode 23 = .ok (.aload_n 2, 1) := by decide +kernel
theorem d8_readNode_24 : decode b8_readNode 24 = .ok (.invokevirtual 82, 3) := by decide +kernel
theorem d8_readNode_27 : decode b8_readNode 27 = .ok (.aload_n 1, 1) := by decide +kernel
theorem d8_readNode_28 : decode b8_readNode 28 = .ok (.ldc 85, 2) := by decide +kernel
theorem d8_readNode_30 : decode b8_readNode 30 = .ok (.invokevirtual 63, 3) := by decide +kernel
theorem d8_readNode_33 : decode b8_readNode 33 = .ok (.aload_n 1, 1) := by decide +kernel
theorem d8_readNode_34 : decode b8_readNode 34 = .ok (.iconst 1, 1) := by decide +kernel
theorem d8_readNode_35 : decode b8_readNode 35 = .ok (.iconst 4, 1) := by decide +kernel
theorem d8_readNode_36 : decode b8_readNode 36 = .ok (.invokevirtual 69, 3) := by decide +kernel
theorem d8_readNode_39 : decode b8_readNode 39 = .ok (.istore_n 3, 1) := by decide +kernel
theorem d8_readNode_40 : decode b8_readNode 40 = .ok (.aload_n 1, 1) := by decide +kernel
theorem d8_readNode_41 : decode b8_readNode 41 = .ok (.invokevirtual 87, 3) := by decide +kernel
theorem d8_readNode_44 : decode b8_readNode 44 = .ok (.ifCond .eq 32, 3) := by decide +kernel
theorem d8_readNode_47 : decode b8_readNode 47 = .ok (.aload_n 2, 1) := by decide +kernel
theorem d8_readNode_48 : decode b8_readNode 48 = .ok (.iload_n 3, 1) := by decide +kernel
theorem d8_readNode_49 : decode b8_readNode 49 = .ok (.invokevirtual 90, 3) := by decide +kernel
theorem d8_readNode_52 : decode b8_readNode 52 = .ok (.aload_n 0, 1) := by decide +kernel
theorem d8_readNode_53 : decode b8_readNode 53 = .ok (.aload_n 1, 1) := by decide +kernel
theorem d8_readNode_54 : decode b8_readNode 54 = .ok (.aload_n 2, 1) := by decide +kernel
theorem d8_readNode_55 : decode b8_readNode 55 = .ok (.aload_n 2, 1) := by decide +kernel
theorem d8_readNode_56 : decode b8_readNode 56 = .ok (.getfield 79, 3) := by decide +kernel
theorem d8_readNode_59 : decode b8_readNode 59 = .ok (.iconst 1, 1) := by decide +kernel
theorem d8_readNode_60 : decode b8_readNode 60 = .ok (.isub, 1) := by decide +kernel
theorem d8_readNode_61 : decode b8_readNode 61 = .ok (.invokevirtual 93, 3) := by decide +kernel
theorem d8_readNode_64 : decode b8_readNode 64 = .ok (.aload_n 0, 1) := by decide +kernel
theorem d8_readNode_65 : decode b8_readNode 65 = .ok (.aload_n 1, 1) := by decide +kernel
theorem d8_readNode_66 : decode b8_readNode 66 = .ok (.aload_n 2, 1) := by decide +kernel
theorem d8_readNode_67 : decode b8_readNode 67 = .ok (.aload_n 2, 1) := by decide +kernel
theorem d8_readNode_68 : decode b8_readNode 68 = .ok (.getfield 79, 3) := by decide +kernel
theorem d8_readNode_71 : decode b8_readNode 71 = .ok (.iconst 1, 1) := by decide +kernel
theorem d8_readNode_72 : decode b8_readNode 72 = .ok (.isub, 1) := by decide +kernel
theorem d8_readNode_73 : decode b8_readNode 73 = .ok (.invokevirtual 97, 3) := by decide +kernel
theorem d8_readNode_76 : decode b8_readNode 76 = .ok (.return_, 1) := by decide +kernel
theorem mc8_readCoins : Cond.code y8_readCoins b8_readCoins 5 none ∈ ce_cm := ce_cm_of (List.mem_of_getElem? (i := 642) (by decide +kernel)) (by decide +kernel)
theorem ml_8_97 : Cond.methodLink cn_8 97 y8_readCoins ∈ ce_cm := ce_cm_of (List.mem_of_getElem? (i := 639) (by decide +kernel)) (by decide +kernel)
theorem mi8_readCoins : Cond.instanceMethod y8_readCoins ∈ ce_cm := ce_cm_of (List.mem_of_getElem? (i := 641) (by decide +kernel)) (by decide +kernel)
theorem ms8_readCoins : Cond.selects cn_8 y8_readCoins y8_readCoins ∈ ce_cm := ce_cm_of (List.mem_of_getElem? (i := 6) (by decide +kernel)) (by decide +kernel)
theorem mc8_readForce : Cond.code y8_readForce b8_readForce 4 none ∈ ce_cm := ce_cm_of (List.mem_of_getElem? (i := 638) (by decide +kernel)) (by decide +kernel)
theorem ml_8_93 : Cond.methodLink cn_8 93 y8_readForce ∈ ce_cm := ce_cm_of (List.mem_of_getElem? (i := 635) (by decide +kernel)) (by decide +kernel)
theorem mi8_readForce : Cond.instanceMethod y8_readForce ∈ ce_cm := ce_cm_of (List.mem_of_getElem? (i := 637) (by decide +kernel)) (by decide +kernel)
theorem ms8_readForce : Cond.selects cn_8 y8_readForce y8_readForce ∈ ce_cm := ce_cm_of (List.mem_of_getElem? (i := 5) (by decide +kernel)) (by decide +kernel)
theorem mc5_addNode : Cond.code y5_addNode b5_addNode 2 none ∈ ce_cm := ce_cm_of (List.mem_of_getElem? (i := 634) (by decide +kernel)) (by decide +kernel)
theorem ml_8_90 : Cond.methodLink cn_8 90 y5_addNode ∈ ce_cm := ce_cm_of (List.mem_of_getElem? (i := 631) (by decide +kernel)) (by decide +kernel)
theorem mi5_addNode : Cond.instanceMethod y5_addNode ∈ ce_cm := ce_cm_of (List.mem_of_getElem? (i := 632) (by decide +kernel)) (by decide +kernel)
theorem ms5_addNode : Cond.selects cn_5 y5_addNode y5_addNode ∈ ce_cm := ce_cm_of (List.mem_of_getElem? (i := 633) (by decide +kernel)) (by decide +kernel)
theorem ml_8_87 : Cond.methodLink cn_8 87 y6_isFine ∈ ce_cm := ce_cm_of (List.mem_of_getElem? (i := 630) (by decide +kernel)) (by decide +kernel)
theorem mc8_takeNewName : Cond.code y8_takeNewName b8_takeNewName 4 none ∈ ce_cm := ce_cm_of (List.mem_of_getElem? (i := 612) (by decide +kernel)) (by decide +kernel)
theorem ml_8_82 : Cond.methodLink cn_8 82 y8_takeNewName ∈ ce_cm := ce_cm_of (List.mem_of_getElem? (i := 609) (by decide +kernel)) (by decide +kernel)
theorem mi8_takeNewName : Cond.instanceMethod y8_takeNewName ∈ ce_cm := ce_cm_of (List.mem_of_getElem? (i := 611) (by decide +kernel)) (by decide +kernel)
theorem ms8_takeNewName : Cond.selects cn_8 y8_takeNewName y8_takeNewName ∈ ce_cm := ce_cm_of (List.mem_of_getElem? (i := 2) (by decide +kernel)) (by decide +kernel)
def f8_readNode (F : Nat) (k2 : Nat) (h : Hp) : Option (Hp) :=
  if (h k2 3) < (10 : Int32) then
    Option.bind (f6_takeWord F 3 h) (fun o18 =>
      Option.bind (f8_takeNewName F k2 o18) (fun o24 =>
        Option.bind (f6_takeWord F 7 o24) (fun o30 =>
          Option.bind (f6_takeNumber F (1 : Int32) (4 : Int32) o30) (fun o36 =>
            Option.bind (f6_isFine F  o36.2) (fun o41 =>
              if o41.1 = 0 then
                some o41.2
              else
                Option.bind (f5_addNode F k2 o36.1 o41.2) (fun o49 =>
                  Option.bind (f8_readForce F k2 ((o49 k2 3) - (1 : Int32)) o49) (fun o61 =>
                    Option.bind (f8_readCoins F k2 ((o61 k2 3) - (1 : Int32)) o61) (fun o73 =>
                      some o73))))))))
  else
    Option.bind (f6_refuse F (3 : Int32) h) (fun o11 =>
      some o11)
set_option maxRecDepth 20000 in
theorem c8_readNode (l : Launch) (D : va_G) (ad : Nat → Nat) (cA : Nat → ClassId) (aK aV : Nat → Nat) (B0 : Nat) (hA : ce_Ad ad B0) (F : Nat) (k2 : Nat) (hk2 : ce_isNet k2) (h : Hp) (r : Hp) (e : f8_readNode F k2 h = some r) : ce_Ct l D ad cA B0 (ce_St aK aV B0) y8_readNode b8_readNode 4 none 12 286 0 0 [.ref (ad 4), .ref (ad 1), .ref (ad k2)] h none r := by
  refine ce_enter hA (by decide) rfl (Nat.le_of_ble_eq_true rfl) (fun p e0 s m below meth c ls C hH hl => ?_)
  have hl : lv_has ls 4 [(0, .ref (ad 4)), (1, .ref (ad 1)), (2, .ref (ad k2))] := hl
  have hx := C.1
  have hb := C.2.1
  have e : Option.bind _ some = some r := (congrArg (fun z => Option.bind z some) e).trans rfl
  unfold f8_readNode at e
  refine lv_aload_n hx hb d8_readNode_0 rfl (lv_at hl 2 rfl) ?_
  refine gf_8_79 C hH hk2 d8_readNode_1 ?_
  refine lv_bipush (v := (10 : Int32)) hx hb d8_readNode_4 (by decide) ?_
  refine lv_icmp_lt (tgt := 15) hx hb d8_readNode_6 (by decide) (fun hc6 => ?_) (fun hc6 => ?_)
  · have e := ce_if1 e hc6
    refine lv_aload_n hx hb d8_readNode_15 rfl (lv_at hl 1 rfl) ?_
    refine va_ldcS hx hb C.2.2.2.1 (ce_srR C.2.2.2.2.2.2.2.2.2.2 3 rfl) d8_readNode_16 ?_
    obtain ⟨o18, eo18, e⟩ := ce_bd e
    refine ce_callV (As := [.ref (aK 3)]) (rest := []) C (ce_sok aK aV B0) hH (c6_takeWord l D ad cA aK aV B0 C.2.2.2.2.2.2.1 F 3 (by decide) h o18 eo18) lo_1.1 lo_1.2.choose_spec rfl rfl mc6_takeWord ml_8_63 mi6_takeWord ms6_takeWord mI_6 (n := 1) (by decide) rfl ⟨Nat.le_of_ble_eq_true rfl, Nat.le_of_ble_eq_true rfl⟩ ⟨Nat.le_of_ble_eq_true rfl, Nat.le_of_ble_eq_true rfl⟩ hl.1 rfl (Nat.le_of_ble_eq_true rfl) d8_readNode_18 (fun H locs hH => ?_)
    refine W.eq (g2 := F0 m 21 ls []) rfl ?_
    refine lv_aload_n hx hb d8_readNode_21 rfl (lv_at hl 0 rfl) ?_
    refine lv_aload_n hx hb d8_readNode_22 rfl (lv_at hl 1 rfl) ?_
    refine lv_aload_n hx hb d8_readNode_23 rfl (lv_at hl 2 rfl) ?_
    obtain ⟨o24, eo24, e⟩ := ce_bd e
    refine ce_callV (As := [.ref (ad 1), .ref (ad k2)]) (rest := []) C (ce_sok aK aV B0) hH (c8_takeNewName l D ad cA aK aV B0 C.2.2.2.2.2.2.1 F k2 hk2 o18 o24 eo24) lo_4.1 lo_4.2.choose_spec rfl rfl mc8_takeNewName ml_8_82 mi8_takeNewName ms8_takeNewName mI_8 (n := 2) (by decide) rfl ⟨Nat.le_of_ble_eq_true rfl, Nat.le_of_ble_eq_true rfl⟩ ⟨Nat.le_of_ble_eq_true rfl, Nat.le_of_ble_eq_true rfl⟩ hl.1 rfl (Nat.le_of_ble_eq_true rfl) d8_readNode_24 (fun H locs hH => ?_)
    refine W.eq (g2 := F0 m 27 ls []) rfl ?_
    refine lv_aload_n hx hb d8_readNode_27 rfl (lv_at hl 1 rfl) ?_
    refine va_ldcS hx hb C.2.2.2.1 (ce_srR C.2.2.2.2.2.2.2.2.2.2 7 rfl) d8_readNode_28 ?_
    obtain ⟨o30, eo30, e⟩ := ce_bd e
    refine ce_callV (As := [.ref (aK 7)]) (rest := []) C (ce_sok aK aV B0) hH (c6_takeWord l D ad cA aK aV B0 C.2.2.2.2.2.2.1 F 7 (by decide) o24 o30 eo30) lo_1.1 lo_1.2.choose_spec rfl rfl mc6_takeWord ml_8_63 mi6_takeWord ms6_takeWord mI_6 (n := 1) (by decide) rfl ⟨Nat.le_of_ble_eq_true rfl, Nat.le_of_ble_eq_true rfl⟩ ⟨Nat.le_of_ble_eq_true rfl, Nat.le_of_ble_eq_true rfl⟩ hl.1 rfl (Nat.le_of_ble_eq_true rfl) d8_readNode_30 (fun H locs hH => ?_)
    refine W.eq (g2 := F0 m 33 ls []) rfl ?_
    refine lv_aload_n hx hb d8_readNode_33 rfl (lv_at hl 1 rfl) ?_
    refine lv_iconst (v := (1 : Int32)) hx hb d8_readNode_34 (by decide) ?_
    refine lv_iconst (v := (4 : Int32)) hx hb d8_readNode_35 (by decide) ?_
    obtain ⟨o36, eo36, e⟩ := ce_bd e
    refine ce_callV (As := [.int (1 : Int32), .int (4 : Int32)]) (rest := []) C (ce_sok aK aV B0) hH (c6_takeNumber l D ad cA aK aV B0 C.2.2.2.2.2.2.1 F (1 : Int32) (4 : Int32)  o30 o36 eo36) lo_1.1 lo_1.2.choose_spec rfl rfl mc6_takeNumber ml_8_69 mi6_takeNumber ms6_takeNumber mI_6 (n := 2) (by decide) rfl ⟨Nat.le_of_ble_eq_true rfl, Nat.le_of_ble_eq_true rfl⟩ ⟨Nat.le_of_ble_eq_true rfl, Nat.le_of_ble_eq_true rfl⟩ hl.1 rfl (Nat.le_of_ble_eq_true rfl) d8_readNode_36 (fun H locs hH => ?_)
    refine W.eq (g2 := F0 m 39 ls [.int o36.1]) rfl ?_
    refine lv_istore_n (lv' := [(3, .int o36.1), (0, .ref (ad 4)), (1, .ref (ad 1)), (2, .ref (ad k2))]) hx hb d8_readNode_39 rfl hl (by decide) rfl (fun ls hl => ?_)
    refine lv_aload_n hx hb d8_readNode_40 rfl (lv_at hl 2 rfl) ?_
    obtain ⟨o41, eo41, e⟩ := ce_bd e
    refine ce_callV (As := []) (rest := []) C (ce_sok aK aV B0) hH (c6_isFine l D ad cA aK aV B0 C.2.2.2.2.2.2.1 F   o36.2 o41 eo41) lo_1.1 lo_1.2.choose_spec rfl rfl mc6_isFine ml_8_87 mi6_isFine ms6_isFine mI_6 (n := 0) (by decide) rfl ⟨Nat.le_of_ble_eq_true rfl, Nat.le_of_ble_eq_true rfl⟩ ⟨Nat.le_of_ble_eq_true rfl, Nat.le_of_ble_eq_true rfl⟩ hl.1 rfl (Nat.le_of_ble_eq_true rfl) d8_readNode_41 (fun H locs hH => ?_)
    refine W.eq (g2 := F0 m 44 ls [.int o41.1]) rfl ?_
    refine lv_if_eq (tgt := 76) hx hb d8_readNode_44 (by decide) (fun hc44 => ?_) (fun hc44 => ?_)
    · have e := ce_if1 e hc44
      exact ce_vret C (ce_sok aK aV B0) hH (Option.some.inj e) d8_readNode_76
    · have e := ce_if0 e hc44
      refine lv_aload_n hx hb d8_readNode_47 rfl (lv_at hl 3 rfl) ?_
      refine lv_iload_n hx hb d8_readNode_48 rfl (lv_at hl 0 rfl) ?_
      obtain ⟨o49, eo49, e⟩ := ce_bd e
      refine ce_callV (As := [.int o36.1]) (rest := []) C (ce_sok aK aV B0) hH (c5_addNode l D ad cA aK aV B0 C.2.2.2.2.2.2.1 F k2 o36.1 hk2 o41.2 o49 eo49) (lk_Net hk2).1 (lk_Net hk2).2.choose_spec rfl rfl mc5_addNode ml_8_90 mi5_addNode ms5_addNode mI_5 (n := 1) (by decide) rfl ⟨Nat.le_of_ble_eq_true rfl, Nat.le_of_ble_eq_true rfl⟩ ⟨Nat.le_of_ble_eq_true rfl, Nat.le_of_ble_eq_true rfl⟩ hl.1 rfl (Nat.le_of_ble_eq_true rfl) d8_readNode_49 (fun H locs hH => ?_)
      refine W.eq (g2 := F0 m 52 ls []) rfl ?_
      refine lv_aload_n hx hb d8_readNode_52 rfl (lv_at hl 1 rfl) ?_
      refine lv_aload_n hx hb d8_readNode_53 rfl (lv_at hl 2 rfl) ?_
      refine lv_aload_n hx hb d8_readNode_54 rfl (lv_at hl 3 rfl) ?_
      refine lv_aload_n hx hb d8_readNode_55 rfl (lv_at hl 3 rfl) ?_
      refine gf_8_79 C hH hk2 d8_readNode_56 ?_
      refine lv_iconst (v := (1 : Int32)) hx hb d8_readNode_59 (by decide) ?_
      refine lv_isub hx hb d8_readNode_60 ?_
      obtain ⟨o61, eo61, e⟩ := ce_bd e
      refine ce_callV (As := [.ref (ad 1), .ref (ad k2), .int ((o49 k2 3) - (1 : Int32))]) (rest := []) C (ce_sok aK aV B0) hH (c8_readForce l D ad cA aK aV B0 C.2.2.2.2.2.2.1 F k2 ((o49 k2 3) - (1 : Int32)) hk2 o49 o61 eo61) lo_4.1 lo_4.2.choose_spec rfl rfl mc8_readForce ml_8_93 mi8_readForce ms8_readForce mI_8 (n := 3) (by decide) rfl ⟨Nat.le_of_ble_eq_true rfl, Nat.le_of_ble_eq_true rfl⟩ ⟨Nat.le_of_ble_eq_true rfl, Nat.le_of_ble_eq_true rfl⟩ hl.1 rfl (Nat.le_of_ble_eq_true rfl) d8_readNode_61 (fun H locs hH => ?_)
      refine W.eq (g2 := F0 m 64 ls []) rfl ?_
      refine lv_aload_n hx hb d8_readNode_64 rfl (lv_at hl 1 rfl) ?_
      refine lv_aload_n hx hb d8_readNode_65 rfl (lv_at hl 2 rfl) ?_
      refine lv_aload_n hx hb d8_readNode_66 rfl (lv_at hl 3 rfl) ?_
      refine lv_aload_n hx hb d8_readNode_67 rfl (lv_at hl 3 rfl) ?_
      refine gf_8_79 C hH hk2 d8_readNode_68 ?_
      refine lv_iconst (v := (1 : Int32)) hx hb d8_readNode_71 (by decide) ?_
      refine lv_isub hx hb d8_readNode_72 ?_
      obtain ⟨o73, eo73, e⟩ := ce_bd e
      refine ce_callV (As := [.ref (ad 1), .ref (ad k2), .int ((o61 k2 3) - (1 : Int32))]) (rest := []) C (ce_sok aK aV B0) hH (c8_readCoins l D ad cA aK aV B0 C.2.2.2.2.2.2.1 F k2 ((o61 k2 3) - (1 : Int32)) hk2 o61 o73 eo73) lo_4.1 lo_4.2.choose_spec rfl rfl mc8_readCoins ml_8_97 mi8_readCoins ms8_readCoins mI_8 (n := 3) (by decide) rfl ⟨Nat.le_of_ble_eq_true rfl, Nat.le_of_ble_eq_true rfl⟩ ⟨Nat.le_of_ble_eq_true rfl, Nat.le_of_ble_eq_true rfl⟩ hl.1 rfl (Nat.le_of_ble_eq_true rfl) d8_readNode_73 (fun H locs hH => ?_)
      refine W.eq (g2 := F0 m 76 ls []) rfl ?_
      exact ce_vret C (ce_sok aK aV B0) hH (Option.some.inj e) d8_readNode_76
  · have e := ce_if0 e hc6
    refine lv_aload_n hx hb d8_readNode_9 rfl (lv_at hl 1 rfl) ?_
    refine lv_iconst (v := (3 : Int32)) hx hb d8_readNode_10 (by decide) ?_
    obtain ⟨o11, eo11, e⟩ := ce_bd e
    refine ce_callV (As := [.int (3 : Int32)]) (rest := []) C (ce_sok aK aV B0) hH (c6_refuse l D ad cA aK aV B0 C.2.2.2.2.2.2.1 F (3 : Int32)  h o11 eo11) lo_1.1 lo_1.2.choose_spec rfl rfl mc6_refuse ml_8_50 mi6_refuse ms6_refuse mI_6 (n := 1) (by decide) rfl ⟨Nat.le_of_ble_eq_true rfl, Nat.le_of_ble_eq_true rfl⟩ ⟨Nat.le_of_ble_eq_true rfl, Nat.le_of_ble_eq_true rfl⟩ hl.1 rfl (Nat.le_of_ble_eq_true rfl) d8_readNode_11 (fun H locs hH => ?_)
    refine W.eq (g2 := F0 m 14 ls []) rfl ?_
    exact ce_vret C (ce_sok aK aV B0) hH (Option.some.inj e) d8_readNode_14
abbrev b8_takeKnownName : ByteArray := prog_10_method_13_code
def y8_takeKnownName : MethodName := ⟨cn_8, "takeKnownName", "(LCableElection$Reading;LCableElection$Net;I)I"⟩
theorem d8_takeKnownName_0 : decode b8_takeKnownName 0 = .ok (.aload_n 1, 1) := by decide +kernel
theorem d8_takeKnownName_1 : decode b8_takeKnownName 1 = .ok (.invokevirtual 87, 3) := by decide +kernel
theorem d8_takeKnownName_4 : decode b8_takeKnownName 4 = .ok (.ifCond .ne 5, 3) := by decide +kernel
theorem d8_takeKnownName_7 : decode b8_takeKnownName 7 = .ok (.iconst (-1), 1) := by decide +kernel
theorem d8_takeKnownName_8 : decode b8_takeKnownName 8 = .ok (.ireturn, 1) := by decide +kernel
theorem d8_takeKnownName_9 : decode b8_takeKnownName 9 = .ok (.aload_n 1, 1) := by decide +kernel
theorem d8_takeKnownName_10 : decode b8_takeKnownName 10 = .ok (.getfield 100, 3) := by decide +kernel
theorem d8_takeKnownName_13 : decode b8_takeKnownName 13 = .ok (.iconst 1, 1) := by decide +kernel
theorem d8_takeKnownName_14 : decode b8_takeKnownName 14 = .ok (.if_icmp .eq 10, 3) := by decide +kernel
theorem d8_takeKnownName_17 : decode b8_takeKnownName 17 = .ok (.aload_n 1, 1) := by decide +kernel
theorem d8_takeKnownName_18 : decode b8_takeKnownName 18 = .ok (.iconst 1, 1) := by decide +kernel
theorem d8_takeKnownName_19 : decode b8_takeKnownName 19 = .ok (.invokevirtual 50, 3) := by decide +kernel
theorem d8_takeKnownName_22 : decode b8_takeKnownName 22 = .ok (.iconst (-1), 1) := by decide +kernel
theorem d8_takeKnownName_23 : decode b8_takeKnownName 23 = .ok (.ireturn, 1) := by decide +kernel
theorem d8_takeKnownName_24 : decode b8_takeKnownName 24 = .ok (.aload_n 0, 1) := by decide +kernel
theorem d8_takeKnownName_25 : decode b8_takeKnownName 25 = .ok (.aload_n 1, 1) := by decide +kernel
theorem d8_takeKnownName_26 : decode b8_takeKnownName 26 = .ok (.aload_n 2, 1) := by decide +kernel
theorem d8_takeKnownName_27 : decode b8_takeKnownName 27 = .ok (.invokevirtual 113, 3) := by decide +kernel
theorem d8_takeKnownName_30 : decode b8_takeKnownName 30 = .ok (.istore 4, 2) := by decide +kernel
theorem d8_takeKnownName_32 : decode b8_takeKnownName 32 = .ok (.iload 4, 2) := by decide +kernel
theorem d8_takeKnownName_34 : decode b8_takeKnownName 34 = .ok (.iconst (-1), 1) := by decide +kernel
theorem d8_takeKnownName_35 : decode b8_takeKnownName 35 = .ok (.if_icmp .eq 9, 3) := by decide +kernel
theorem d8_takeKnownName_38 : decode b8_takeKnownName 38 = .ok (.iload 4, 2) := by decide +kernel
theorem d8_takeKnownName_40 : decode b8_takeKnownName 40 = .ok (.iload_n 3, 1) := by decide +kernel
theorem d8_takeKnownName_41 : decode b8_takeKnownName 41 = .ok (.if_icmp .ne 10, 3) := by decide +kernel
theorem d8_takeKnownName_44 : decode b8_takeKnownName 44 = .ok (.aload_n 1, 1) := by decide +kernel
theorem d8_takeKnownName_45 : decode b8_takeKnownName 45 = .ok (.iconst 2, 1) := by decide +kernel
theorem d8_takeKnownName_46 : decode b8_takeKnownName 46 = .ok (.invokevirtual 50, 3) := by decide +kernel
theorem d8_takeKnownName_49 : decode b8_takeKnownName 49 = .ok (.iconst (-1), 1) := by decide +kernel
theorem d8_takeKnownName_50 : decode b8_takeKnownName 50 = .ok (.ireturn, 1) := by decide +kernel
theorem d8_takeKnownName_51 : decode b8_takeKnownName 51 = .ok (.aload_n 1, 1) := by decide +kernel
theorem d8_takeKnownName_52 : decode b8_takeKnownName 52 = .ok (.invokevirtual 117, 3) := by decide +kernel
theorem d8_takeKnownName_55 : decode b8_takeKnownName 55 = .ok (.iload 4, 2) := by decide +kernel
theorem d8_takeKnownName_57 : decode b8_takeKnownName 57 = .ok (.ireturn, 1) := by decide +kernel
def f8_takeKnownName (F : Nat) (k2 : Nat) (x3 : Int32) (h : Hp) : Option (Int32 × Hp) :=
  Option.bind (f6_isFine F  h) (fun o1 =>
    if o1.1 = 0 then
      some ((-1 : Int32), o1.2)
    else
      if (o1.2 1 1) = (1 : Int32) then
        Option.bind (f8_nodeNamedHere F k2 o1.2) (fun o27 =>
          if o27.1 = (-1 : Int32) then
            Option.bind (f6_refuse F (2 : Int32) o27.2) (fun o46 =>
              some ((-1 : Int32), o46))
          else
            if o27.1 = x3 then
              Option.bind (f6_refuse F (2 : Int32) o27.2) (fun o46 =>
                some ((-1 : Int32), o46))
            else
              Option.bind (f6_advance F  o27.2) (fun o52 =>
                some (o27.1, o52)))
      else
        Option.bind (f6_refuse F (1 : Int32) o1.2) (fun o19 =>
          some ((-1 : Int32), o19)))
set_option maxRecDepth 20000 in
theorem c8_takeKnownName (l : Launch) (D : va_G) (ad : Nat → Nat) (cA : Nat → ClassId) (aK aV : Nat → Nat) (B0 : Nat) (hA : ce_Ad ad B0) (F : Nat) (k2 : Nat) (x3 : Int32) (hk2 : ce_isNet k2) (h : Hp) (r : Int32 × Hp) (e : f8_takeKnownName F k2 x3 h = some r) : ce_Ct l D ad cA B0 (ce_St aK aV B0) y8_takeKnownName b8_takeKnownName 5 (some .int) 3 67 0 0 [.ref (ad 4), .ref (ad 1), .ref (ad k2), .int x3] h (some (.int r.1)) r.2 := by
  refine ce_enter hA (by decide) rfl (Nat.le_of_ble_eq_true rfl) (fun p e0 s m below meth c ls C hH hl => ?_)
  have hl : lv_has ls 5 [(0, .ref (ad 4)), (1, .ref (ad 1)), (2, .ref (ad k2)), (3, .int x3)] := hl
  have hx := C.1
  have hb := C.2.1
  have e : Option.bind _ some = some r := (congrArg (fun z => Option.bind z some) e).trans rfl
  unfold f8_takeKnownName at e
  refine lv_aload_n hx hb d8_takeKnownName_0 rfl (lv_at hl 1 rfl) ?_
  obtain ⟨o1, eo1, e⟩ := ce_bd e
  refine ce_callV (As := []) (rest := []) C (ce_sok aK aV B0) hH (c6_isFine l D ad cA aK aV B0 C.2.2.2.2.2.2.1 F   h o1 eo1) lo_1.1 lo_1.2.choose_spec rfl rfl mc6_isFine ml_8_87 mi6_isFine ms6_isFine mI_6 (n := 0) (by decide) rfl ⟨Nat.le_of_ble_eq_true rfl, Nat.le_of_ble_eq_true rfl⟩ ⟨Nat.le_of_ble_eq_true rfl, Nat.le_of_ble_eq_true rfl⟩ hl.1 rfl (Nat.le_of_ble_eq_true rfl) d8_takeKnownName_1 (fun H locs hH => ?_)
  refine W.eq (g2 := F0 m 4 ls [.int o1.1]) rfl ?_
  refine lv_if_ne (tgt := 9) hx hb d8_takeKnownName_4 (by decide) (fun hc4 => ?_) (fun hc4 => ?_)
  · have e := ce_if0 e hc4
    refine lv_aload_n hx hb d8_takeKnownName_9 rfl (lv_at hl 1 rfl) ?_
    refine gf_8_100 C hH d8_takeKnownName_10 ?_
    refine lv_iconst (v := (1 : Int32)) hx hb d8_takeKnownName_13 (by decide) ?_
    refine lv_icmp_eq (tgt := 24) hx hb d8_takeKnownName_14 (by decide) (fun hc14 => ?_) (fun hc14 => ?_)
    · have e := ce_if1 e hc14
      refine lv_aload_n hx hb d8_takeKnownName_24 rfl (lv_at hl 0 rfl) ?_
      refine lv_aload_n hx hb d8_takeKnownName_25 rfl (lv_at hl 1 rfl) ?_
      refine lv_aload_n hx hb d8_takeKnownName_26 rfl (lv_at hl 2 rfl) ?_
      obtain ⟨o27, eo27, e⟩ := ce_bd e
      refine ce_callV (As := [.ref (ad 1), .ref (ad k2)]) (rest := []) C (ce_sok aK aV B0) hH (c8_nodeNamedHere l D ad cA aK aV B0 C.2.2.2.2.2.2.1 F k2 hk2 o1.2 o27 eo27) lo_4.1 lo_4.2.choose_spec rfl rfl mc8_nodeNamedHere ml_8_113 mi8_nodeNamedHere ms8_nodeNamedHere mI_8 (n := 2) (by decide) rfl ⟨Nat.le_of_ble_eq_true rfl, Nat.le_of_ble_eq_true rfl⟩ ⟨Nat.le_of_ble_eq_true rfl, Nat.le_of_ble_eq_true rfl⟩ hl.1 rfl (Nat.le_of_ble_eq_true rfl) d8_takeKnownName_27 (fun H locs hH => ?_)
      refine W.eq (g2 := F0 m 30 ls [.int o27.1]) rfl ?_
      refine lv_istore (lv' := [(4, .int o27.1), (0, .ref (ad 4)), (1, .ref (ad 1)), (2, .ref (ad k2)), (3, .int x3)]) hx hb d8_takeKnownName_30 hl (by decide) rfl (fun ls hl => ?_)
      refine lv_iload hx hb d8_takeKnownName_32 (lv_at hl 0 rfl) ?_
      refine lv_iconst (v := (-1 : Int32)) hx hb d8_takeKnownName_34 (by decide) ?_
      refine lv_icmp_eq (tgt := 44) hx hb d8_takeKnownName_35 (by decide) (fun hc35 => ?_) (fun hc35 => ?_)
      · have e := ce_if1 e hc35
        refine lv_aload_n hx hb d8_takeKnownName_44 rfl (lv_at hl 2 rfl) ?_
        refine lv_iconst (v := (2 : Int32)) hx hb d8_takeKnownName_45 (by decide) ?_
        obtain ⟨o46, eo46, e⟩ := ce_bd e
        refine ce_callV (As := [.int (2 : Int32)]) (rest := []) C (ce_sok aK aV B0) hH (c6_refuse l D ad cA aK aV B0 C.2.2.2.2.2.2.1 F (2 : Int32)  o27.2 o46 eo46) lo_1.1 lo_1.2.choose_spec rfl rfl mc6_refuse ml_8_50 mi6_refuse ms6_refuse mI_6 (n := 1) (by decide) rfl ⟨Nat.le_of_ble_eq_true rfl, Nat.le_of_ble_eq_true rfl⟩ ⟨Nat.le_of_ble_eq_true rfl, Nat.le_of_ble_eq_true rfl⟩ hl.1 rfl (Nat.le_of_ble_eq_true rfl) d8_takeKnownName_46 (fun H locs hH => ?_)
        refine W.eq (g2 := F0 m 49 ls []) rfl ?_
        refine lv_iconst (v := (-1 : Int32)) hx hb d8_takeKnownName_49 (by decide) ?_
        exact ce_iretE C (ce_sok aK aV B0) hH e d8_takeKnownName_50
      · have e := ce_if0 e hc35
        refine lv_iload hx hb d8_takeKnownName_38 (lv_at hl 0 rfl) ?_
        refine lv_iload_n hx hb d8_takeKnownName_40 rfl (lv_at hl 4 rfl) ?_
        refine lv_icmp_ne (tgt := 51) hx hb d8_takeKnownName_41 (by decide) (fun hc41 => ?_) (fun hc41 => ?_)
        · have e := ce_if0 e hc41
          refine lv_aload_n hx hb d8_takeKnownName_51 rfl (lv_at hl 2 rfl) ?_
          obtain ⟨o52, eo52, e⟩ := ce_bd e
          refine ce_callV (As := []) (rest := []) C (ce_sok aK aV B0) hH (c6_advance l D ad cA aK aV B0 C.2.2.2.2.2.2.1 F   o27.2 o52 eo52) lo_1.1 lo_1.2.choose_spec rfl rfl mc6_advance ml_8_117 mi6_advance ms6_advance mI_6 (n := 0) (by decide) rfl ⟨Nat.le_of_ble_eq_true rfl, Nat.le_of_ble_eq_true rfl⟩ ⟨Nat.le_of_ble_eq_true rfl, Nat.le_of_ble_eq_true rfl⟩ hl.1 rfl (Nat.le_of_ble_eq_true rfl) d8_takeKnownName_52 (fun H locs hH => ?_)
          refine W.eq (g2 := F0 m 55 ls []) rfl ?_
          refine lv_iload hx hb d8_takeKnownName_55 (lv_at hl 0 rfl) ?_
          exact ce_iretE C (ce_sok aK aV B0) hH e d8_takeKnownName_57
        · have e := ce_if1 e hc41
          refine lv_aload_n hx hb d8_takeKnownName_44 rfl (lv_at hl 2 rfl) ?_
          refine lv_iconst (v := (2 : Int32)) hx hb d8_takeKnownName_45 (by decide) ?_
          obtain ⟨o46, eo46, e⟩ := ce_bd e
          refine ce_callV (As := [.int (2 : Int32)]) (rest := []) C (ce_sok aK aV B0) hH (c6_refuse l D ad cA aK aV B0 C.2.2.2.2.2.2.1 F (2 : Int32)  o27.2 o46 eo46) lo_1.1 lo_1.2.choose_spec rfl rfl mc6_refuse ml_8_50 mi6_refuse ms6_refuse mI_6 (n := 1) (by decide) rfl ⟨Nat.le_of_ble_eq_true rfl, Nat.le_of_ble_eq_true rfl⟩ ⟨Nat.le_of_ble_eq_true rfl, Nat.le_of_ble_eq_true rfl⟩ hl.1 rfl (Nat.le_of_ble_eq_true rfl) d8_takeKnownName_46 (fun H locs hH => ?_)
          refine W.eq (g2 := F0 m 49 ls []) rfl ?_
          refine lv_iconst (v := (-1 : Int32)) hx hb d8_takeKnownName_49 (by decide) ?_
          exact ce_iretE C (ce_sok aK aV B0) hH e d8_takeKnownName_50
    · have e := ce_if0 e hc14
      refine lv_aload_n hx hb d8_takeKnownName_17 rfl (lv_at hl 1 rfl) ?_
      refine lv_iconst (v := (1 : Int32)) hx hb d8_takeKnownName_18 (by decide) ?_
      obtain ⟨o19, eo19, e⟩ := ce_bd e
      refine ce_callV (As := [.int (1 : Int32)]) (rest := []) C (ce_sok aK aV B0) hH (c6_refuse l D ad cA aK aV B0 C.2.2.2.2.2.2.1 F (1 : Int32)  o1.2 o19 eo19) lo_1.1 lo_1.2.choose_spec rfl rfl mc6_refuse ml_8_50 mi6_refuse ms6_refuse mI_6 (n := 1) (by decide) rfl ⟨Nat.le_of_ble_eq_true rfl, Nat.le_of_ble_eq_true rfl⟩ ⟨Nat.le_of_ble_eq_true rfl, Nat.le_of_ble_eq_true rfl⟩ hl.1 rfl (Nat.le_of_ble_eq_true rfl) d8_takeKnownName_19 (fun H locs hH => ?_)
      refine W.eq (g2 := F0 m 22 ls []) rfl ?_
      refine lv_iconst (v := (-1 : Int32)) hx hb d8_takeKnownName_22 (by decide) ?_
      exact ce_iretE C (ce_sok aK aV B0) hH e d8_takeKnownName_23
  · have e := ce_if1 e hc4
    refine lv_iconst (v := (-1 : Int32)) hx hb d8_takeKnownName_7 (by decide) ?_
    exact ce_iretE C (ce_sok aK aV B0) hH e d8_takeKnownName_8
abbrev b8_takeFreePort : ByteArray := prog_10_method_14_code
def y8_takeFreePort : MethodName := ⟨cn_8, "takeFreePort", "(LCableElection$Reading;LCableElection$Net;I)I"⟩
theorem d8_takeFreePort_0 : decode b8_takeFreePort 0 = .ok (.aload_n 0, 1) := by decide +kernel
theorem d8_takeFreePort_1 : decode b8_takeFreePort 1 = .ok (.invokevirtual 87, 3) := by decide +kernel
theorem d8_takeFreePort_4 : decode b8_takeFreePort 4 = .ok (.ifCond .eq 11, 3) := by decide +kernel
theorem d8_takeFreePort_7 : decode b8_takeFreePort 7 = .ok (.aload_n 1, 1) := by decide +kernel
theorem d8_takeFreePort_8 : decode b8_takeFreePort 8 = .ok (.iload_n 2, 1) := by decide +kernel
theorem d8_takeFreePort_9 : decode b8_takeFreePort 9 = .ok (.invokevirtual 169, 3) := by decide +kernel
theorem d8_takeFreePort_12 : decode b8_takeFreePort 12 = .ok (.ifCond .ne 5, 3) := by decide +kernel
theorem d8_takeFreePort_15 : decode b8_takeFreePort 15 = .ok (.iconst (-1), 1) := by decide +kernel
theorem d8_takeFreePort_16 : decode b8_takeFreePort 16 = .ok (.ireturn, 1) := by decide +kernel
theorem d8_takeFreePort_17 : decode b8_takeFreePort 17 = .ok (.aload_n 0, 1) := by decide +kernel
theorem d8_takeFreePort_18 : decode b8_takeFreePort 18 = .ok (.getfield 100, 3) := by decide +kernel
theorem d8_takeFreePort_21 : decode b8_takeFreePort 21 = .ok (.iconst 2, 1) := by decide +kernel
theorem d8_takeFreePort_22 : decode b8_takeFreePort 22 = .ok (.if_icmp .ne 20, 3) := by decide +kernel
theorem d8_takeFreePort_25 : decode b8_takeFreePort 25 = .ok (.aload_n 1, 1) := by decide +kernel
theorem d8_takeFreePort_26 : decode b8_takeFreePort 26 = .ok (.iload_n 2, 1) := by decide +kernel
theorem d8_takeFreePort_27 : decode b8_takeFreePort 27 = .ok (.aload_n 0, 1) := by decide +kernel
theorem d8_takeFreePort_28 : decode b8_takeFreePort 28 = .ok (.invokevirtual 173, 3) := by decide +kernel
theorem d8_takeFreePort_31 : decode b8_takeFreePort 31 = .ok (.invokevirtual 177, 3) := by decide +kernel
theorem d8_takeFreePort_34 : decode b8_takeFreePort 34 = .ok (.ifCond .eq 8, 3) := by decide +kernel
theorem d8_takeFreePort_37 : decode b8_takeFreePort 37 = .ok (.aload_n 0, 1) := by decide +kernel
theorem d8_takeFreePort_38 : decode b8_takeFreePort 38 = .ok (.iconst 2, 1) := by decide +kernel
theorem d8_takeFreePort_39 : decode b8_takeFreePort 39 = .ok (.invokevirtual 50, 3) := by decide +kernel
theorem d8_takeFreePort_42 : decode b8_takeFreePort 42 = .ok (.aload_n 0, 1) := by decide +kernel
theorem d8_takeFreePort_43 : decode b8_takeFreePort 43 = .ok (.iconst 0, 1) := by decide +kernel
theorem d8_takeFreePort_44 : decode b8_takeFreePort 44 = .ok (.aload_n 1, 1) := by decide +kernel
theorem d8_takeFreePort_45 : decode b8_takeFreePort 45 = .ok (.getfield 181, 3) := by decide +kernel
theorem d8_takeFreePort_48 : decode b8_takeFreePort 48 = .ok (.iload_n 2, 1) := by decide +kernel
theorem d8_takeFreePort_49 : decode b8_takeFreePort 49 = .ok (.iaload, 1) := by decide +kernel
theorem d8_takeFreePort_50 : decode b8_takeFreePort 50 = .ok (.iconst 1, 1) := by decide +kernel
theorem d8_takeFreePort_51 : decode b8_takeFreePort 51 = .ok (.isub, 1) := by decide +kernel
theorem d8_takeFreePort_52 : decode b8_takeFreePort 52 = .ok (.invokevirtual 69, 3) := by decide +kernel
theorem d8_takeFreePort_55 : decode b8_takeFreePort 55 = .ok (.ireturn, 1) := by decide +kernel
theorem fl_8_181 : Cond.fieldLink cn_8 181 (ft_5 5).1 (ft_5 5).2.1 (ft_5 5).2.2.1 ∈ ce_cm := ce_cm_of (List.mem_of_getElem? (i := 219) (by decide +kernel)) (by decide +kernel)
theorem gf_8_181 (C : ce_Cx p s m args c meth cc nL ret cn_8 D ad cA B0 (ce_St aK aV B0)) (hH : ce_H D ad cA B0 X s h H locs) {k : Nat} (hk : ce_isNet k) (hdg : decode cc pc = .ok (.getfield 181, 3)) (kk : W p l e0 R s m args below meth c H locs cells slots Q (F0 m (pc + 3) ls (.ref (ad (k + 1)) :: rest))) : W p l e0 R s m args below meth c H locs cells slots Q (F0 m pc ls (.ref (ad k) :: rest)) := by
  rcases hk with rfl | rfl
  · exact ce_get C hH (k := 7) (ci := 5) (j := 5) (N := 11) (sj := some (some 8)) (by decide) rfl rfl fw_5 (by decide) fl_8_181 rfl hdg kk
  · exact ce_get C hH (k := 14) (ci := 5) (j := 5) (N := 11) (sj := some (some 15)) (by decide) rfl rfl fw_5 (by decide) fl_8_181 rfl hdg kk
theorem mc5_isPortTaken : Cond.code y5_isPortTaken b5_isPortTaken 3 (some .boolean) ∈ ce_cm := ce_cm_of (List.mem_of_getElem? (i := 665) (by decide +kernel)) (by decide +kernel)
theorem ml_8_177 : Cond.methodLink cn_8 177 y5_isPortTaken ∈ ce_cm := ce_cm_of (List.mem_of_getElem? (i := 662) (by decide +kernel)) (by decide +kernel)
theorem mi5_isPortTaken : Cond.instanceMethod y5_isPortTaken ∈ ce_cm := ce_cm_of (List.mem_of_getElem? (i := 663) (by decide +kernel)) (by decide +kernel)
theorem ms5_isPortTaken : Cond.selects cn_5 y5_isPortTaken y5_isPortTaken ∈ ce_cm := ce_cm_of (List.mem_of_getElem? (i := 664) (by decide +kernel)) (by decide +kernel)
theorem ml_8_173 : Cond.methodLink cn_8 173 y6_numberHere ∈ ce_cm := ce_cm_of (List.mem_of_getElem? (i := 661) (by decide +kernel)) (by decide +kernel)
theorem ml_8_169 : Cond.methodLink cn_8 169 y5_hasNode ∈ ce_cm := ce_cm_of (List.mem_of_getElem? (i := 657) (by decide +kernel)) (by decide +kernel)
def f8_takeFreePort (F : Nat) (k1 : Nat) (x2 : Int32) (h : Hp) : Option (Int32 × Hp) :=
  Option.bind (f6_isFine F  h) (fun o1 =>
    if o1.1 = 0 then
      some ((-1 : Int32), o1.2)
    else
      Option.bind (f5_hasNode F k1 x2 o1.2) (fun o9 =>
        if o9.1 = 0 then
          some ((-1 : Int32), o9.2)
        else
          if (o9.2 1 1) = (2 : Int32) then
            Option.bind (f6_numberHere F  o9.2) (fun o28 =>
              Option.bind (f5_isPortTaken F k1 x2 o28.1 o28.2) (fun o31 =>
                if o31.1 = 0 then
                  if ce_in x2 10 = true then
                    Option.bind (f6_takeNumber F (0 : Int32) ((o31.2 (k1 + 1) (x2).toNatClampNeg) - (1 : Int32)) o31.2) (fun o52 =>
                      some (o52.1, o52.2))
                  else none
                else
                  Option.bind (f6_refuse F (2 : Int32) o31.2) (fun o39 =>
                    if ce_in x2 10 = true then
                      Option.bind (f6_takeNumber F (0 : Int32) ((o39 (k1 + 1) (x2).toNatClampNeg) - (1 : Int32)) o39) (fun o52 =>
                        some (o52.1, o52.2))
                    else none)))
          else
            if ce_in x2 10 = true then
              Option.bind (f6_takeNumber F (0 : Int32) ((o9.2 (k1 + 1) (x2).toNatClampNeg) - (1 : Int32)) o9.2) (fun o52 =>
                some (o52.1, o52.2))
            else none))
set_option maxRecDepth 20000 in
theorem c8_takeFreePort (l : Launch) (D : va_G) (ad : Nat → Nat) (cA : Nat → ClassId) (aK aV : Nat → Nat) (B0 : Nat) (hA : ce_Ad ad B0) (F : Nat) (k1 : Nat) (x2 : Int32) (hk1 : ce_isNet k1) (h : Hp) (r : Int32 × Hp) (e : f8_takeFreePort F k1 x2 h = some r) : ce_Ct l D ad cA B0 (ce_St aK aV B0) y8_takeFreePort b8_takeFreePort 3 (some .int) 3 66 0 0 [.ref (ad 1), .ref (ad k1), .int x2] h (some (.int r.1)) r.2 := by
  refine ce_enter hA (by decide) rfl (Nat.le_of_ble_eq_true rfl) (fun p e0 s m below meth c ls C hH hl => ?_)
  have hl : lv_has ls 3 [(0, .ref (ad 1)), (1, .ref (ad k1)), (2, .int x2)] := hl
  have hx := C.1
  have hb := C.2.1
  have e : Option.bind _ some = some r := (congrArg (fun z => Option.bind z some) e).trans rfl
  unfold f8_takeFreePort at e
  refine lv_aload_n hx hb d8_takeFreePort_0 rfl (lv_at hl 0 rfl) ?_
  obtain ⟨o1, eo1, e⟩ := ce_bd e
  refine ce_callV (As := []) (rest := []) C (ce_sok aK aV B0) hH (c6_isFine l D ad cA aK aV B0 C.2.2.2.2.2.2.1 F   h o1 eo1) lo_1.1 lo_1.2.choose_spec rfl rfl mc6_isFine ml_8_87 mi6_isFine ms6_isFine mI_6 (n := 0) (by decide) rfl ⟨Nat.le_of_ble_eq_true rfl, Nat.le_of_ble_eq_true rfl⟩ ⟨Nat.le_of_ble_eq_true rfl, Nat.le_of_ble_eq_true rfl⟩ hl.1 rfl (Nat.le_of_ble_eq_true rfl) d8_takeFreePort_1 (fun H locs hH => ?_)
  refine W.eq (g2 := F0 m 4 ls [.int o1.1]) rfl ?_
  refine lv_if_eq (tgt := 15) hx hb d8_takeFreePort_4 (by decide) (fun hc4 => ?_) (fun hc4 => ?_)
  · have e := ce_if1 e hc4
    refine lv_iconst (v := (-1 : Int32)) hx hb d8_takeFreePort_15 (by decide) ?_
    exact ce_iretE C (ce_sok aK aV B0) hH e d8_takeFreePort_16
  · have e := ce_if0 e hc4
    refine lv_aload_n hx hb d8_takeFreePort_7 rfl (lv_at hl 1 rfl) ?_
    refine lv_iload_n hx hb d8_takeFreePort_8 rfl (lv_at hl 2 rfl) ?_
    obtain ⟨o9, eo9, e⟩ := ce_bd e
    refine ce_callV (As := [.int x2]) (rest := []) C (ce_sok aK aV B0) hH (c5_hasNode l D ad cA aK aV B0 C.2.2.2.2.2.2.1 F k1 x2 hk1 o1.2 o9 eo9) (lk_Net hk1).1 (lk_Net hk1).2.choose_spec rfl rfl mc5_hasNode ml_8_169 mi5_hasNode ms5_hasNode mI_5 (n := 1) (by decide) rfl ⟨Nat.le_of_ble_eq_true rfl, Nat.le_of_ble_eq_true rfl⟩ ⟨Nat.le_of_ble_eq_true rfl, Nat.le_of_ble_eq_true rfl⟩ hl.1 rfl (Nat.le_of_ble_eq_true rfl) d8_takeFreePort_9 (fun H locs hH => ?_)
    refine W.eq (g2 := F0 m 12 ls [.int o9.1]) rfl ?_
    refine lv_if_ne (tgt := 17) hx hb d8_takeFreePort_12 (by decide) (fun hc12 => ?_) (fun hc12 => ?_)
    · have e := ce_if0 e hc12
      refine lv_aload_n hx hb d8_takeFreePort_17 rfl (lv_at hl 0 rfl) ?_
      refine gf_8_100 C hH d8_takeFreePort_18 ?_
      refine lv_iconst (v := (2 : Int32)) hx hb d8_takeFreePort_21 (by decide) ?_
      refine lv_icmp_ne (tgt := 42) hx hb d8_takeFreePort_22 (by decide) (fun hc22 => ?_) (fun hc22 => ?_)
      · have e := ce_if0 e hc22
        refine lv_aload_n hx hb d8_takeFreePort_42 rfl (lv_at hl 0 rfl) ?_
        refine lv_iconst (v := (0 : Int32)) hx hb d8_takeFreePort_43 (by decide) ?_
        refine lv_aload_n hx hb d8_takeFreePort_44 rfl (lv_at hl 1 rfl) ?_
        refine gf_8_181 C hH hk1 d8_takeFreePort_45 ?_
        refine lv_iload_n hx hb d8_takeFreePort_48 rfl (lv_at hl 2 rfl) ?_
        obtain ⟨hi49, e⟩ := ce_gd e
        refine ce_iald C hH (la_Net_1 hk1).1 (la_Net_1 hk1).2 (ce_in_vp hi49) d8_takeFreePort_49 ?_
        refine lv_iconst (v := (1 : Int32)) hx hb d8_takeFreePort_50 (by decide) ?_
        refine lv_isub hx hb d8_takeFreePort_51 ?_
        obtain ⟨o52, eo52, e⟩ := ce_bd e
        refine ce_callV (As := [.int (0 : Int32), .int ((o9.2 (k1 + 1) (x2).toNatClampNeg) - (1 : Int32))]) (rest := []) C (ce_sok aK aV B0) hH (c6_takeNumber l D ad cA aK aV B0 C.2.2.2.2.2.2.1 F (0 : Int32) ((o9.2 (k1 + 1) (x2).toNatClampNeg) - (1 : Int32))  o9.2 o52 eo52) lo_1.1 lo_1.2.choose_spec rfl rfl mc6_takeNumber ml_8_69 mi6_takeNumber ms6_takeNumber mI_6 (n := 2) (by decide) rfl ⟨Nat.le_of_ble_eq_true rfl, Nat.le_of_ble_eq_true rfl⟩ ⟨Nat.le_of_ble_eq_true rfl, Nat.le_of_ble_eq_true rfl⟩ hl.1 rfl (Nat.le_of_ble_eq_true rfl) d8_takeFreePort_52 (fun H locs hH => ?_)
        refine W.eq (g2 := F0 m 55 ls [.int o52.1]) rfl ?_
        exact ce_iretE C (ce_sok aK aV B0) hH e d8_takeFreePort_55
      · have e := ce_if1 e hc22
        refine lv_aload_n hx hb d8_takeFreePort_25 rfl (lv_at hl 1 rfl) ?_
        refine lv_iload_n hx hb d8_takeFreePort_26 rfl (lv_at hl 2 rfl) ?_
        refine lv_aload_n hx hb d8_takeFreePort_27 rfl (lv_at hl 0 rfl) ?_
        obtain ⟨o28, eo28, e⟩ := ce_bd e
        refine ce_callV (As := []) (rest := [.int x2, .ref (ad k1)]) C (ce_sok aK aV B0) hH (c6_numberHere l D ad cA aK aV B0 C.2.2.2.2.2.2.1 F   o9.2 o28 eo28) lo_1.1 lo_1.2.choose_spec rfl rfl mc6_numberHere ml_8_173 mi6_numberHere ms6_numberHere mI_6 (n := 0) (by decide) rfl ⟨Nat.le_of_ble_eq_true rfl, Nat.le_of_ble_eq_true rfl⟩ ⟨Nat.le_of_ble_eq_true rfl, Nat.le_of_ble_eq_true rfl⟩ hl.1 rfl (Nat.le_of_ble_eq_true rfl) d8_takeFreePort_28 (fun H locs hH => ?_)
        refine W.eq (g2 := F0 m 31 ls [.int o28.1, .int x2, .ref (ad k1)]) rfl ?_
        obtain ⟨o31, eo31, e⟩ := ce_bd e
        refine ce_callV (As := [.int x2, .int o28.1]) (rest := []) C (ce_sok aK aV B0) hH (c5_isPortTaken l D ad cA aK aV B0 C.2.2.2.2.2.2.1 F k1 x2 o28.1 hk1 o28.2 o31 eo31) (lk_Net hk1).1 (lk_Net hk1).2.choose_spec rfl rfl mc5_isPortTaken ml_8_177 mi5_isPortTaken ms5_isPortTaken mI_5 (n := 2) (by decide) rfl ⟨Nat.le_of_ble_eq_true rfl, Nat.le_of_ble_eq_true rfl⟩ ⟨Nat.le_of_ble_eq_true rfl, Nat.le_of_ble_eq_true rfl⟩ hl.1 rfl (Nat.le_of_ble_eq_true rfl) d8_takeFreePort_31 (fun H locs hH => ?_)
        refine W.eq (g2 := F0 m 34 ls [.int o31.1]) rfl ?_
        refine lv_if_eq (tgt := 42) hx hb d8_takeFreePort_34 (by decide) (fun hc34 => ?_) (fun hc34 => ?_)
        · have e := ce_if1 e hc34
          refine lv_aload_n hx hb d8_takeFreePort_42 rfl (lv_at hl 0 rfl) ?_
          refine lv_iconst (v := (0 : Int32)) hx hb d8_takeFreePort_43 (by decide) ?_
          refine lv_aload_n hx hb d8_takeFreePort_44 rfl (lv_at hl 1 rfl) ?_
          refine gf_8_181 C hH hk1 d8_takeFreePort_45 ?_
          refine lv_iload_n hx hb d8_takeFreePort_48 rfl (lv_at hl 2 rfl) ?_
          obtain ⟨hi49, e⟩ := ce_gd e
          refine ce_iald C hH (la_Net_1 hk1).1 (la_Net_1 hk1).2 (ce_in_vp hi49) d8_takeFreePort_49 ?_
          refine lv_iconst (v := (1 : Int32)) hx hb d8_takeFreePort_50 (by decide) ?_
          refine lv_isub hx hb d8_takeFreePort_51 ?_
          obtain ⟨o52, eo52, e⟩ := ce_bd e
          refine ce_callV (As := [.int (0 : Int32), .int ((o31.2 (k1 + 1) (x2).toNatClampNeg) - (1 : Int32))]) (rest := []) C (ce_sok aK aV B0) hH (c6_takeNumber l D ad cA aK aV B0 C.2.2.2.2.2.2.1 F (0 : Int32) ((o31.2 (k1 + 1) (x2).toNatClampNeg) - (1 : Int32))  o31.2 o52 eo52) lo_1.1 lo_1.2.choose_spec rfl rfl mc6_takeNumber ml_8_69 mi6_takeNumber ms6_takeNumber mI_6 (n := 2) (by decide) rfl ⟨Nat.le_of_ble_eq_true rfl, Nat.le_of_ble_eq_true rfl⟩ ⟨Nat.le_of_ble_eq_true rfl, Nat.le_of_ble_eq_true rfl⟩ hl.1 rfl (Nat.le_of_ble_eq_true rfl) d8_takeFreePort_52 (fun H locs hH => ?_)
          refine W.eq (g2 := F0 m 55 ls [.int o52.1]) rfl ?_
          exact ce_iretE C (ce_sok aK aV B0) hH e d8_takeFreePort_55
        · have e := ce_if0 e hc34
          refine lv_aload_n hx hb d8_takeFreePort_37 rfl (lv_at hl 0 rfl) ?_
          refine lv_iconst (v := (2 : Int32)) hx hb d8_takeFreePort_38 (by decide) ?_
          obtain ⟨o39, eo39, e⟩ := ce_bd e
          refine ce_callV (As := [.int (2 : Int32)]) (rest := []) C (ce_sok aK aV B0) hH (c6_refuse l D ad cA aK aV B0 C.2.2.2.2.2.2.1 F (2 : Int32)  o31.2 o39 eo39) lo_1.1 lo_1.2.choose_spec rfl rfl mc6_refuse ml_8_50 mi6_refuse ms6_refuse mI_6 (n := 1) (by decide) rfl ⟨Nat.le_of_ble_eq_true rfl, Nat.le_of_ble_eq_true rfl⟩ ⟨Nat.le_of_ble_eq_true rfl, Nat.le_of_ble_eq_true rfl⟩ hl.1 rfl (Nat.le_of_ble_eq_true rfl) d8_takeFreePort_39 (fun H locs hH => ?_)
          refine W.eq (g2 := F0 m 42 ls []) rfl ?_
          refine lv_aload_n hx hb d8_takeFreePort_42 rfl (lv_at hl 0 rfl) ?_
          refine lv_iconst (v := (0 : Int32)) hx hb d8_takeFreePort_43 (by decide) ?_
          refine lv_aload_n hx hb d8_takeFreePort_44 rfl (lv_at hl 1 rfl) ?_
          refine gf_8_181 C hH hk1 d8_takeFreePort_45 ?_
          refine lv_iload_n hx hb d8_takeFreePort_48 rfl (lv_at hl 2 rfl) ?_
          obtain ⟨hi49, e⟩ := ce_gd e
          refine ce_iald C hH (la_Net_1 hk1).1 (la_Net_1 hk1).2 (ce_in_vp hi49) d8_takeFreePort_49 ?_
          refine lv_iconst (v := (1 : Int32)) hx hb d8_takeFreePort_50 (by decide) ?_
          refine lv_isub hx hb d8_takeFreePort_51 ?_
          obtain ⟨o52, eo52, e⟩ := ce_bd e
          refine ce_callV (As := [.int (0 : Int32), .int ((o39 (k1 + 1) (x2).toNatClampNeg) - (1 : Int32))]) (rest := []) C (ce_sok aK aV B0) hH (c6_takeNumber l D ad cA aK aV B0 C.2.2.2.2.2.2.1 F (0 : Int32) ((o39 (k1 + 1) (x2).toNatClampNeg) - (1 : Int32))  o39 o52 eo52) lo_1.1 lo_1.2.choose_spec rfl rfl mc6_takeNumber ml_8_69 mi6_takeNumber ms6_takeNumber mI_6 (n := 2) (by decide) rfl ⟨Nat.le_of_ble_eq_true rfl, Nat.le_of_ble_eq_true rfl⟩ ⟨Nat.le_of_ble_eq_true rfl, Nat.le_of_ble_eq_true rfl⟩ hl.1 rfl (Nat.le_of_ble_eq_true rfl) d8_takeFreePort_52 (fun H locs hH => ?_)
          refine W.eq (g2 := F0 m 55 ls [.int o52.1]) rfl ?_
          exact ce_iretE C (ce_sok aK aV B0) hH e d8_takeFreePort_55
    · have e := ce_if1 e hc12
      refine lv_iconst (v := (-1 : Int32)) hx hb d8_takeFreePort_15 (by decide) ?_
      exact ce_iretE C (ce_sok aK aV B0) hH e d8_takeFreePort_16
abbrev b8_readCable : ByteArray := prog_10_method_12_code
def y8_readCable : MethodName := ⟨cn_8, "readCable", "(LCableElection$Reading;LCableElection$Net;)V"⟩
theorem d8_readCable_0 : decode b8_readCable 0 = .ok (.aload_n 2, 1) := by decide +kernel
theorem d8_readCable_1 : decode b8_readCable 1 = .ok (.getfield 150, 3) := by decide +kernel
theorem d8_readCable_4 : decode b8_readCable 4 = .ok (.bipush 15, 2) := by decide +kernel
theorem d8_readCable_6 : decode b8_readCable 6 = .ok (.if_icmp .lt 9, 3) := by decide +kernel
theorem d8_readCable_9 : decode b8_readCable 9 = .ok (.aload_n 1, 1) := by decide +kernel
theorem d8_readCable_10 : decode b8_readCable 10 = .ok (.iconst 3, 1) := by decide +kernel
theorem d8_readCable_11 : decode b8_readCable 11 = .ok (.invokevirtual 50, 3) := by decide +kernel
theorem d8_readCable_14 : decode b8_readCable 14 = .ok (.return_, 1) := by decide +kernel
theorem d8_readCable_15 : decode b8_readCable 15 = .ok (.aload_n 1, 1) := by decide +kernel
theorem d8_readCable_16 : decode b8_readCable 16 = .ok (.ldc 45, 2) := by decide +kernel
theorem d8_readCable_18 : decode b8_readCable 18 = .ok (.invokevirtual 63, 3) := by decide +kernel
theorem d8_readCable_21 : decode b8_readCable 21 = .ok (.aload_n 0, 1) := by decide +kernel
theorem d8_readCable_22 : decode b8_readCable 22 = .ok (.aload_n 1, 1) := by decide +kernel
theorem d8_readCable_23 : decode b8_readCable 23 = .ok (.aload_n 2, 1) := by decide +kernel
theorem d8_readCable_24 : decode b8_readCable 24 = .ok (.iconst (-1), 1) := by decide +kernel
theorem d8_readCable_25 : decode b8_readCable 25 = .ok (.invokevirtual 153, 3) := by decide +kernel
theorem d8_readCable_28 : decode b8_readCable 28 = .ok (.istore_n 3, 1) := by decide +kernel
theorem d8_readCable_29 : decode b8_readCable 29 = .ok (.aload_n 1, 1) := by decide +kernel
theorem d8_readCable_30 : decode b8_readCable 30 = .ok (.aload_n 2, 1) := by decide +kernel
theorem d8_readCable_31 : decode b8_readCable 31 = .ok (.iload_n 3, 1) := by decide +kernel
theorem d8_readCable_32 : decode b8_readCable 32 = .ok (.invokestatic 157, 3) := by decide +kernel
theorem d8_readCable_35 : decode b8_readCable 35 = .ok (.istore 4, 2) := by decide +kernel
theorem d8_readCable_37 : decode b8_readCable 37 = .ok (.aload_n 0, 1) := by decide +kernel
theorem d8_readCable_38 : decode b8_readCable 38 = .ok (.aload_n 1, 1) := by decide +kernel
theorem d8_readCable_39 : decode b8_readCable 39 = .ok (.aload_n 2, 1) := by decide +kernel
theorem d8_readCable_40 : decode b8_readCable 40 = .ok (.iload_n 3, 1) := by decide +kernel
theorem d8_readCable_41 : decode b8_readCable 41 = .ok (.invokevirtual 153, 3) := by decide +kernel
theorem d8_readCable_44 : decode b8_readCable 44 = .ok (.istore 5, 2) := by decide +kernel
theorem d8_readCable_46 : decode b8_readCable 46 = .ok (.aload_n 1, 1) := by decide +kernel
theorem d8_readCable_47 : decode b8_readCable 47 = .ok (.aload_n 2, 1) := by decide +kernel
theorem d8_readCable_48 : decode b8_readCable 48 = .ok (.iload 5, 2) := by decide +kernel
theorem d8_readCable_50 : decode b8_readCable 50 = .ok (.invokestatic 157, 3) := by decide +kernel
theorem d8_readCable_53 : decode b8_readCable 53 = .ok (.istore 6, 2) := by decide +kernel
theorem d8_readCable_55 : decode b8_readCable 55 = .ok (.aload_n 1, 1) := by decide +kernel
theorem d8_readCable_56 : decode b8_readCable 56 = .ok (.ldc 160, 2) := by decide +kernel
theorem d8_readCable_58 : decode b8_readCable 58 = .ok (.invokevirtual 63, 3) := by decide +kernel
theorem d8_readCable_61 : decode b8_readCable 61 = .ok (.aload_n 1, 1) := by decide +kernel
theorem d8_readCable_62 : decode b8_readCable 62 = .ok (.iconst 1, 1) := by decide +kernel
theorem d8_readCable_63 : decode b8_readCable 63 = .ok (.bipush 9, 2) := by decide +kernel
theorem d8_readCable_65 : decode b8_readCable 65 = .ok (.invokevirtual 69, 3) := by decide +kernel
theorem d8_readCable_68 : decode b8_readCable 68 = .ok (.istore 7, 2) := by decide +kernel
theorem d8_readCable_70 : decode b8_readCable 70 = .ok (.aload_n 1, 1) := by decide +kernel
theorem d8_readCable_71 : decode b8_readCable 71 = .ok (.invokevirtual 87, 3) := by decide +kernel
theorem d8_readCable_74 : decode b8_readCable 74 = .ok (.ifCond .eq 22, 3) := by decide +kernel
theorem d8_readCable_77 : decode b8_readCable 77 = .ok (.aload_n 2, 1) := by decide +kernel
theorem d8_readCable_78 : decode b8_readCable 78 = .ok (.iload_n 3, 1) := by decide +kernel
theorem d8_readCable_79 : decode b8_readCable 79 = .ok (.iload 4, 2) := by decide +kernel
theorem d8_readCable_81 : decode b8_readCable 81 = .ok (.invokestatic 162, 3) := by decide +kernel
theorem d8_readCable_84 : decode b8_readCable 84 = .ok (.iload 5, 2) := by decide +kernel
theorem d8_readCable_86 : decode b8_readCable 86 = .ok (.iload 6, 2) := by decide +kernel
theorem d8_readCable_88 : decode b8_readCable 88 = .ok (.invokestatic 162, 3) := by decide +kernel
theorem d8_readCable_91 : decode b8_readCable 91 = .ok (.iload 7, 2) := by decide +kernel
theorem d8_readCable_93 : decode b8_readCable 93 = .ok (.invokevirtual 165, 3) := by decide +kernel
theorem d8_readCable_96 : decode b8_readCable 96 = .ok (.return_, 1) := by decide +kernel
theorem fl_8_150 : Cond.fieldLink cn_8 150 (ft_5 4).1 (ft_5 4).2.1 (ft_5 4).2.2.1 ∈ ce_cm := ce_cm_of (List.mem_of_getElem? (i := 212) (by decide +kernel)) (by decide +kernel)
theorem gf_8_150 (C : ce_Cx p s m args c meth cc nL ret cn_8 D ad cA B0 (ce_St aK aV B0)) (hH : ce_H D ad cA B0 X s h H locs) {k : Nat} (hk : ce_isNet k) (hdg : decode cc pc = .ok (.getfield 150, 3)) (kk : W p l e0 R s m args below meth c H locs cells slots Q (F0 m (pc + 3) ls (.int (h k 4) :: rest))) : W p l e0 R s m args below meth c H locs cells slots Q (F0 m pc ls (.ref (ad k) :: rest)) := by
  rcases hk with rfl | rfl
  · exact ce_get C hH (k := 7) (ci := 5) (j := 4) (N := 11) (sj := none) (by decide) rfl rfl fw_5 (by decide) fl_8_150 rfl hdg kk
  · exact ce_get C hH (k := 14) (ci := 5) (j := 4) (N := 11) (sj := none) (by decide) rfl rfl fw_5 (by decide) fl_8_150 rfl hdg kk
theorem pf_8_150 (C : ce_Cx p s m args c meth cc nL ret cn_8 D ad cA B0 (ce_St aK aV B0)) (hH : ce_H D ad cA B0 X s h H locs) {k : Nat} (hk : ce_isNet k) {x : Int32} (hdg : decode cc pc = .ok (.putfield 150, 3)) (kk : ∀ (H1 : Heap) (locs1 : List Loc), ce_H D ad cA B0 X s (hp_up h k 4 x) H1 locs1 → W p l e0 R s m args below meth c H1 locs1 cells slots Q (F0 m (pc + 3) ls rest)) : W p l e0 R s m args below meth c H locs cells slots Q (F0 m pc ls (.int x :: .ref (ad k) :: rest)) := by
  rcases hk with rfl | rfl
  · exact ce_put C hH (k := 7) (ci := 5) (j := 4) (N := 11) (fy := fy_5) (sj := none) x (by decide) rfl rfl fw_5 fo_5 fn_5 (by decide) fl_8_150 rfl rfl (v := .int x) (by simp [ce_slot, upd]) rfl rfl hdg kk
  · exact ce_put C hH (k := 14) (ci := 5) (j := 4) (N := 11) (fy := fy_5) (sj := none) x (by decide) rfl rfl fw_5 fo_5 fn_5 (by decide) fl_8_150 rfl rfl (v := .int x) (by simp [ce_slot, upd]) rfl rfl hdg kk
theorem ml_8_165 : Cond.methodLink cn_8 165 y5_link ∈ ce_cm := ce_cm_of (List.mem_of_getElem? (i := 680) (by decide +kernel)) (by decide +kernel)
theorem mc8_takeFreePort : Cond.code y8_takeFreePort b8_takeFreePort 3 (some .int) ∈ ce_cm := ce_cm_of (List.mem_of_getElem? (i := 656) (by decide +kernel)) (by decide +kernel)
theorem ml_8_157 : Cond.methodLink cn_8 157 y8_takeFreePort ∈ ce_cm := ce_cm_of (List.mem_of_getElem? (i := 654) (by decide +kernel)) (by decide +kernel)
theorem mt8_takeFreePort : Cond.static y8_takeFreePort ∈ ce_cm := ce_cm_of (List.mem_of_getElem? (i := 655) (by decide +kernel)) (by decide +kernel)
theorem mc8_takeKnownName : Cond.code y8_takeKnownName b8_takeKnownName 5 (some .int) ∈ ce_cm := ce_cm_of (List.mem_of_getElem? (i := 653) (by decide +kernel)) (by decide +kernel)
theorem ml_8_153 : Cond.methodLink cn_8 153 y8_takeKnownName ∈ ce_cm := ce_cm_of (List.mem_of_getElem? (i := 650) (by decide +kernel)) (by decide +kernel)
theorem mi8_takeKnownName : Cond.instanceMethod y8_takeKnownName ∈ ce_cm := ce_cm_of (List.mem_of_getElem? (i := 652) (by decide +kernel)) (by decide +kernel)
theorem ms8_takeKnownName : Cond.selects cn_8 y8_takeKnownName y8_takeKnownName ∈ ce_cm := ce_cm_of (List.mem_of_getElem? (i := 8) (by decide +kernel)) (by decide +kernel)
def f8_readCable (F : Nat) (k2 : Nat) (h : Hp) : Option (Hp) :=
  if (h k2 4) < (15 : Int32) then
    Option.bind (f6_takeWord F 4 h) (fun o18 =>
      Option.bind (f8_takeKnownName F k2 (-1 : Int32) o18) (fun o25 =>
        Option.bind (f8_takeFreePort F k2 o25.1 o25.2) (fun o32 =>
          Option.bind (f8_takeKnownName F k2 o25.1 o32.2) (fun o41 =>
            Option.bind (f8_takeFreePort F k2 o41.1 o41.2) (fun o50 =>
              Option.bind (f6_takeWord F 8 o50.2) (fun o58 =>
                Option.bind (f6_takeNumber F (1 : Int32) (9 : Int32) o58) (fun o65 =>
                  Option.bind (f6_isFine F  o65.2) (fun o71 =>
                    if o71.1 = 0 then
                      some o71.2
                    else
                      Option.bind (f11_endOf F o25.1 o32.1 o71.2) (fun o81 =>
                        Option.bind (f11_endOf F o41.1 o50.1 o81.2) (fun o88 =>
                          Option.bind (f5_link F k2 o81.1 o88.1 o65.1 o88.2) (fun o93 =>
                            some o93)))))))))))
  else
    Option.bind (f6_refuse F (3 : Int32) h) (fun o11 =>
      some o11)
set_option maxRecDepth 20000 in
theorem c8_readCable (l : Launch) (D : va_G) (ad : Nat → Nat) (cA : Nat → ClassId) (aK aV : Nat → Nat) (B0 : Nat) (hA : ce_Ad ad B0) (F : Nat) (k2 : Nat) (hk2 : ce_isNet k2) (h : Hp) (r : Hp) (e : f8_readCable F k2 h = some r) : ce_Ct l D ad cA B0 (ce_St aK aV B0) y8_readCable b8_readCable 8 none 11 264 0 0 [.ref (ad 4), .ref (ad 1), .ref (ad k2)] h none r := by
  refine ce_enter hA (by decide) rfl (Nat.le_of_ble_eq_true rfl) (fun p e0 s m below meth c ls C hH hl => ?_)
  have hl : lv_has ls 8 [(0, .ref (ad 4)), (1, .ref (ad 1)), (2, .ref (ad k2))] := hl
  have hx := C.1
  have hb := C.2.1
  have e : Option.bind _ some = some r := (congrArg (fun z => Option.bind z some) e).trans rfl
  unfold f8_readCable at e
  refine lv_aload_n hx hb d8_readCable_0 rfl (lv_at hl 2 rfl) ?_
  refine gf_8_150 C hH hk2 d8_readCable_1 ?_
  refine lv_bipush (v := (15 : Int32)) hx hb d8_readCable_4 (by decide) ?_
  refine lv_icmp_lt (tgt := 15) hx hb d8_readCable_6 (by decide) (fun hc6 => ?_) (fun hc6 => ?_)
  · have e := ce_if1 e hc6
    refine lv_aload_n hx hb d8_readCable_15 rfl (lv_at hl 1 rfl) ?_
    refine va_ldcS hx hb C.2.2.2.1 (ce_srR C.2.2.2.2.2.2.2.2.2.2 4 rfl) d8_readCable_16 ?_
    obtain ⟨o18, eo18, e⟩ := ce_bd e
    refine ce_callV (As := [.ref (aK 4)]) (rest := []) C (ce_sok aK aV B0) hH (c6_takeWord l D ad cA aK aV B0 C.2.2.2.2.2.2.1 F 4 (by decide) h o18 eo18) lo_1.1 lo_1.2.choose_spec rfl rfl mc6_takeWord ml_8_63 mi6_takeWord ms6_takeWord mI_6 (n := 1) (by decide) rfl ⟨Nat.le_of_ble_eq_true rfl, Nat.le_of_ble_eq_true rfl⟩ ⟨Nat.le_of_ble_eq_true rfl, Nat.le_of_ble_eq_true rfl⟩ hl.1 rfl (Nat.le_of_ble_eq_true rfl) d8_readCable_18 (fun H locs hH => ?_)
    refine W.eq (g2 := F0 m 21 ls []) rfl ?_
    refine lv_aload_n hx hb d8_readCable_21 rfl (lv_at hl 0 rfl) ?_
    refine lv_aload_n hx hb d8_readCable_22 rfl (lv_at hl 1 rfl) ?_
    refine lv_aload_n hx hb d8_readCable_23 rfl (lv_at hl 2 rfl) ?_
    refine lv_iconst (v := (-1 : Int32)) hx hb d8_readCable_24 (by decide) ?_
    obtain ⟨o25, eo25, e⟩ := ce_bd e
    refine ce_callV (As := [.ref (ad 1), .ref (ad k2), .int (-1 : Int32)]) (rest := []) C (ce_sok aK aV B0) hH (c8_takeKnownName l D ad cA aK aV B0 C.2.2.2.2.2.2.1 F k2 (-1 : Int32) hk2 o18 o25 eo25) lo_4.1 lo_4.2.choose_spec rfl rfl mc8_takeKnownName ml_8_153 mi8_takeKnownName ms8_takeKnownName mI_8 (n := 3) (by decide) rfl ⟨Nat.le_of_ble_eq_true rfl, Nat.le_of_ble_eq_true rfl⟩ ⟨Nat.le_of_ble_eq_true rfl, Nat.le_of_ble_eq_true rfl⟩ hl.1 rfl (Nat.le_of_ble_eq_true rfl) d8_readCable_25 (fun H locs hH => ?_)
    refine W.eq (g2 := F0 m 28 ls [.int o25.1]) rfl ?_
    refine lv_istore_n (lv' := [(3, .int o25.1), (0, .ref (ad 4)), (1, .ref (ad 1)), (2, .ref (ad k2))]) hx hb d8_readCable_28 rfl hl (by decide) rfl (fun ls hl => ?_)
    refine lv_aload_n hx hb d8_readCable_29 rfl (lv_at hl 2 rfl) ?_
    refine lv_aload_n hx hb d8_readCable_30 rfl (lv_at hl 3 rfl) ?_
    refine lv_iload_n hx hb d8_readCable_31 rfl (lv_at hl 0 rfl) ?_
    obtain ⟨o32, eo32, e⟩ := ce_bd e
    refine ce_callS (As := [.ref (ad 1), .ref (ad k2), .int o25.1]) (rest := []) C (ce_sok aK aV B0) hH (c8_takeFreePort l D ad cA aK aV B0 C.2.2.2.2.2.2.1 F k2 o25.1 hk2 o25.2 o32 eo32) mc8_takeFreePort ml_8_157 mt8_takeFreePort mI_8 (n := 3) (by decide) rfl ⟨Nat.le_of_ble_eq_true rfl, Nat.le_of_ble_eq_true rfl⟩ ⟨Nat.le_of_ble_eq_true rfl, Nat.le_of_ble_eq_true rfl⟩ hl.1 rfl (Nat.le_of_ble_eq_true rfl) d8_readCable_32 (fun H locs hH => ?_)
    refine W.eq (g2 := F0 m 35 ls [.int o32.1]) rfl ?_
    refine lv_istore (lv' := [(4, .int o32.1), (3, .int o25.1), (0, .ref (ad 4)), (1, .ref (ad 1)), (2, .ref (ad k2))]) hx hb d8_readCable_35 hl (by decide) rfl (fun ls hl => ?_)
    refine lv_aload_n hx hb d8_readCable_37 rfl (lv_at hl 2 rfl) ?_
    refine lv_aload_n hx hb d8_readCable_38 rfl (lv_at hl 3 rfl) ?_
    refine lv_aload_n hx hb d8_readCable_39 rfl (lv_at hl 4 rfl) ?_
    refine lv_iload_n hx hb d8_readCable_40 rfl (lv_at hl 1 rfl) ?_
    obtain ⟨o41, eo41, e⟩ := ce_bd e
    refine ce_callV (As := [.ref (ad 1), .ref (ad k2), .int o25.1]) (rest := []) C (ce_sok aK aV B0) hH (c8_takeKnownName l D ad cA aK aV B0 C.2.2.2.2.2.2.1 F k2 o25.1 hk2 o32.2 o41 eo41) lo_4.1 lo_4.2.choose_spec rfl rfl mc8_takeKnownName ml_8_153 mi8_takeKnownName ms8_takeKnownName mI_8 (n := 3) (by decide) rfl ⟨Nat.le_of_ble_eq_true rfl, Nat.le_of_ble_eq_true rfl⟩ ⟨Nat.le_of_ble_eq_true rfl, Nat.le_of_ble_eq_true rfl⟩ hl.1 rfl (Nat.le_of_ble_eq_true rfl) d8_readCable_41 (fun H locs hH => ?_)
    refine W.eq (g2 := F0 m 44 ls [.int o41.1]) rfl ?_
    refine lv_istore (lv' := [(5, .int o41.1), (4, .int o32.1), (3, .int o25.1), (0, .ref (ad 4)), (1, .ref (ad 1)), (2, .ref (ad k2))]) hx hb d8_readCable_44 hl (by decide) rfl (fun ls hl => ?_)
    refine lv_aload_n hx hb d8_readCable_46 rfl (lv_at hl 4 rfl) ?_
    refine lv_aload_n hx hb d8_readCable_47 rfl (lv_at hl 5 rfl) ?_
    refine lv_iload hx hb d8_readCable_48 (lv_at hl 0 rfl) ?_
    obtain ⟨o50, eo50, e⟩ := ce_bd e
    refine ce_callS (As := [.ref (ad 1), .ref (ad k2), .int o41.1]) (rest := []) C (ce_sok aK aV B0) hH (c8_takeFreePort l D ad cA aK aV B0 C.2.2.2.2.2.2.1 F k2 o41.1 hk2 o41.2 o50 eo50) mc8_takeFreePort ml_8_157 mt8_takeFreePort mI_8 (n := 3) (by decide) rfl ⟨Nat.le_of_ble_eq_true rfl, Nat.le_of_ble_eq_true rfl⟩ ⟨Nat.le_of_ble_eq_true rfl, Nat.le_of_ble_eq_true rfl⟩ hl.1 rfl (Nat.le_of_ble_eq_true rfl) d8_readCable_50 (fun H locs hH => ?_)
    refine W.eq (g2 := F0 m 53 ls [.int o50.1]) rfl ?_
    refine lv_istore (lv' := [(6, .int o50.1), (5, .int o41.1), (4, .int o32.1), (3, .int o25.1), (0, .ref (ad 4)), (1, .ref (ad 1)), (2, .ref (ad k2))]) hx hb d8_readCable_53 hl (by decide) rfl (fun ls hl => ?_)
    refine lv_aload_n hx hb d8_readCable_55 rfl (lv_at hl 5 rfl) ?_
    refine va_ldcS hx hb C.2.2.2.1 (ce_srR C.2.2.2.2.2.2.2.2.2.2 8 rfl) d8_readCable_56 ?_
    obtain ⟨o58, eo58, e⟩ := ce_bd e
    refine ce_callV (As := [.ref (aK 8)]) (rest := []) C (ce_sok aK aV B0) hH (c6_takeWord l D ad cA aK aV B0 C.2.2.2.2.2.2.1 F 8 (by decide) o50.2 o58 eo58) lo_1.1 lo_1.2.choose_spec rfl rfl mc6_takeWord ml_8_63 mi6_takeWord ms6_takeWord mI_6 (n := 1) (by decide) rfl ⟨Nat.le_of_ble_eq_true rfl, Nat.le_of_ble_eq_true rfl⟩ ⟨Nat.le_of_ble_eq_true rfl, Nat.le_of_ble_eq_true rfl⟩ hl.1 rfl (Nat.le_of_ble_eq_true rfl) d8_readCable_58 (fun H locs hH => ?_)
    refine W.eq (g2 := F0 m 61 ls []) rfl ?_
    refine lv_aload_n hx hb d8_readCable_61 rfl (lv_at hl 5 rfl) ?_
    refine lv_iconst (v := (1 : Int32)) hx hb d8_readCable_62 (by decide) ?_
    refine lv_bipush (v := (9 : Int32)) hx hb d8_readCable_63 (by decide) ?_
    obtain ⟨o65, eo65, e⟩ := ce_bd e
    refine ce_callV (As := [.int (1 : Int32), .int (9 : Int32)]) (rest := []) C (ce_sok aK aV B0) hH (c6_takeNumber l D ad cA aK aV B0 C.2.2.2.2.2.2.1 F (1 : Int32) (9 : Int32)  o58 o65 eo65) lo_1.1 lo_1.2.choose_spec rfl rfl mc6_takeNumber ml_8_69 mi6_takeNumber ms6_takeNumber mI_6 (n := 2) (by decide) rfl ⟨Nat.le_of_ble_eq_true rfl, Nat.le_of_ble_eq_true rfl⟩ ⟨Nat.le_of_ble_eq_true rfl, Nat.le_of_ble_eq_true rfl⟩ hl.1 rfl (Nat.le_of_ble_eq_true rfl) d8_readCable_65 (fun H locs hH => ?_)
    refine W.eq (g2 := F0 m 68 ls [.int o65.1]) rfl ?_
    refine lv_istore (lv' := [(7, .int o65.1), (6, .int o50.1), (5, .int o41.1), (4, .int o32.1), (3, .int o25.1), (0, .ref (ad 4)), (1, .ref (ad 1)), (2, .ref (ad k2))]) hx hb d8_readCable_68 hl (by decide) rfl (fun ls hl => ?_)
    refine lv_aload_n hx hb d8_readCable_70 rfl (lv_at hl 6 rfl) ?_
    obtain ⟨o71, eo71, e⟩ := ce_bd e
    refine ce_callV (As := []) (rest := []) C (ce_sok aK aV B0) hH (c6_isFine l D ad cA aK aV B0 C.2.2.2.2.2.2.1 F   o65.2 o71 eo71) lo_1.1 lo_1.2.choose_spec rfl rfl mc6_isFine ml_8_87 mi6_isFine ms6_isFine mI_6 (n := 0) (by decide) rfl ⟨Nat.le_of_ble_eq_true rfl, Nat.le_of_ble_eq_true rfl⟩ ⟨Nat.le_of_ble_eq_true rfl, Nat.le_of_ble_eq_true rfl⟩ hl.1 rfl (Nat.le_of_ble_eq_true rfl) d8_readCable_71 (fun H locs hH => ?_)
    refine W.eq (g2 := F0 m 74 ls [.int o71.1]) rfl ?_
    refine lv_if_eq (tgt := 96) hx hb d8_readCable_74 (by decide) (fun hc74 => ?_) (fun hc74 => ?_)
    · have e := ce_if1 e hc74
      exact ce_vret C (ce_sok aK aV B0) hH (Option.some.inj e) d8_readCable_96
    · have e := ce_if0 e hc74
      refine lv_aload_n hx hb d8_readCable_77 rfl (lv_at hl 7 rfl) ?_
      refine lv_iload_n hx hb d8_readCable_78 rfl (lv_at hl 4 rfl) ?_
      refine lv_iload hx hb d8_readCable_79 (lv_at hl 3 rfl) ?_
      obtain ⟨o81, eo81, e⟩ := ce_bd e
      refine ce_callN (As := [.int o25.1, .int o32.1]) (rest := [.ref (ad k2)]) C (ce_sok aK aV B0) hH (c11_endOf l D ad cA aK aV B0 C.2.2.2.2.2.2.1 F o25.1 o32.1  o71.2 o81 eo81) mc11_endOf (ce_nwW C.2.2.2.2.2.2.2.2.2.2 11 rfl) mt11_endOf mI_11 (n := 2) (by decide) rfl ⟨Nat.le_of_ble_eq_true rfl, Nat.le_of_ble_eq_true rfl⟩ ⟨Nat.le_of_ble_eq_true rfl, Nat.le_of_ble_eq_true rfl⟩ hl.1 rfl (Nat.le_of_ble_eq_true rfl) d8_readCable_81 (fun H locs hH => ?_)
      refine W.eq (g2 := F0 m 84 ls [.int o81.1, .ref (ad k2)]) rfl ?_
      refine lv_iload hx hb d8_readCable_84 (lv_at hl 2 rfl) ?_
      refine lv_iload hx hb d8_readCable_86 (lv_at hl 1 rfl) ?_
      obtain ⟨o88, eo88, e⟩ := ce_bd e
      refine ce_callN (As := [.int o41.1, .int o50.1]) (rest := [.int o81.1, .ref (ad k2)]) C (ce_sok aK aV B0) hH (c11_endOf l D ad cA aK aV B0 C.2.2.2.2.2.2.1 F o41.1 o50.1  o81.2 o88 eo88) mc11_endOf (ce_nwW C.2.2.2.2.2.2.2.2.2.2 11 rfl) mt11_endOf mI_11 (n := 2) (by decide) rfl ⟨Nat.le_of_ble_eq_true rfl, Nat.le_of_ble_eq_true rfl⟩ ⟨Nat.le_of_ble_eq_true rfl, Nat.le_of_ble_eq_true rfl⟩ hl.1 rfl (Nat.le_of_ble_eq_true rfl) d8_readCable_88 (fun H locs hH => ?_)
      refine W.eq (g2 := F0 m 91 ls [.int o88.1, .int o81.1, .ref (ad k2)]) rfl ?_
      refine lv_iload hx hb d8_readCable_91 (lv_at hl 0 rfl) ?_
      obtain ⟨o93, eo93, e⟩ := ce_bd e
      refine ce_callV (As := [.int o81.1, .int o88.1, .int o65.1]) (rest := []) C (ce_sok aK aV B0) hH (c5_link l D ad cA aK aV B0 C.2.2.2.2.2.2.1 F k2 o81.1 o88.1 o65.1 hk2 o88.2 o93 eo93) (lk_Net hk2).1 (lk_Net hk2).2.choose_spec rfl rfl mc5_link ml_8_165 mi5_link ms5_link mI_5 (n := 3) (by decide) rfl ⟨Nat.le_of_ble_eq_true rfl, Nat.le_of_ble_eq_true rfl⟩ ⟨Nat.le_of_ble_eq_true rfl, Nat.le_of_ble_eq_true rfl⟩ hl.1 rfl (Nat.le_of_ble_eq_true rfl) d8_readCable_93 (fun H locs hH => ?_)
      refine W.eq (g2 := F0 m 96 ls []) rfl ?_
      exact ce_vret C (ce_sok aK aV B0) hH (Option.some.inj e) d8_readCable_96
  · have e := ce_if0 e hc6
    refine lv_aload_n hx hb d8_readCable_9 rfl (lv_at hl 1 rfl) ?_
    refine lv_iconst (v := (3 : Int32)) hx hb d8_readCable_10 (by decide) ?_
    obtain ⟨o11, eo11, e⟩ := ce_bd e
    refine ce_callV (As := [.int (3 : Int32)]) (rest := []) C (ce_sok aK aV B0) hH (c6_refuse l D ad cA aK aV B0 C.2.2.2.2.2.2.1 F (3 : Int32)  h o11 eo11) lo_1.1 lo_1.2.choose_spec rfl rfl mc6_refuse ml_8_50 mi6_refuse ms6_refuse mI_6 (n := 1) (by decide) rfl ⟨Nat.le_of_ble_eq_true rfl, Nat.le_of_ble_eq_true rfl⟩ ⟨Nat.le_of_ble_eq_true rfl, Nat.le_of_ble_eq_true rfl⟩ hl.1 rfl (Nat.le_of_ble_eq_true rfl) d8_readCable_11 (fun H locs hH => ?_)
    refine W.eq (g2 := F0 m 14 ls []) rfl ?_
    exact ce_vret C (ce_sok aK aV B0) hH (Option.some.inj e) d8_readCable_14
abbrev b8_read : ByteArray := prog_10_method_2_code
def y8_read : MethodName := ⟨cn_8, "read", "(LCableElection$Reading;LCableElection$Net;)V"⟩
theorem d8_read_0 : decode b8_read 0 = .ok (.aload_n 2, 1) := by decide +kernel
theorem d8_read_1 : decode b8_read 1 = .ok (.invokevirtual 18, 3) := by decide +kernel
theorem d8_read_4 : decode b8_read 4 = .ok (.aload_n 1, 1) := by decide +kernel
theorem d8_read_5 : decode b8_read 5 = .ok (.invokevirtual 23, 3) := by decide +kernel
theorem d8_read_8 : decode b8_read 8 = .ok (.iconst 0, 1) := by decide +kernel
theorem d8_read_9 : decode b8_read 9 = .ok (.istore_n 3, 1) := by decide +kernel
theorem d8_read_10 : decode b8_read 10 = .ok (.iload_n 3, 1) := by decide +kernel
theorem d8_read_11 : decode b8_read 11 = .ok (.sipush 700, 3) := by decide +kernel
theorem d8_read_14 : decode b8_read 14 = .ok (.if_icmp .ge 81, 3) := by decide +kernel
theorem d8_read_17 : decode b8_read 17 = .ok (.aload_n 1, 1) := by decide +kernel
theorem d8_read_18 : decode b8_read 18 = .ok (.invokevirtual 28, 3) := by decide +kernel
theorem d8_read_21 : decode b8_read 21 = .ok (.ifCond .eq 74, 3) := by decide +kernel
theorem d8_read_24 : decode b8_read 24 = .ok (.iload_n 3, 1) := by decide +kernel
theorem d8_read_25 : decode b8_read 25 = .ok (.ifCond .ne 12, 3) := by decide +kernel
theorem d8_read_28 : decode b8_read 28 = .ok (.aload_n 0, 1) := by decide +kernel
theorem d8_read_29 : decode b8_read 29 = .ok (.aload_n 1, 1) := by decide +kernel
theorem d8_read_30 : decode b8_read 30 = .ok (.aload_n 2, 1) := by decide +kernel
theorem d8_read_31 : decode b8_read 31 = .ok (.invokevirtual 32, 3) := by decide +kernel
theorem d8_read_34 : decode b8_read 34 = .ok (.goto 44, 3) := by decide +kernel
theorem d8_read_37 : decode b8_read 37 = .ok (.aload_n 1, 1) := by decide +kernel
theorem d8_read_38 : decode b8_read 38 = .ok (.ldc 36, 2) := by decide +kernel
theorem d8_read_40 : decode b8_read 40 = .ok (.invokevirtual 38, 3) := by decide +kernel
theorem d8_read_43 : decode b8_read 43 = .ok (.ifCond .eq 12, 3) := by decide +kernel
theorem d8_read_46 : decode b8_read 46 = .ok (.aload_n 0, 1) := by decide +kernel
theorem d8_read_47 : decode b8_read 47 = .ok (.aload_n 1, 1) := by decide +kernel
theorem d8_read_48 : decode b8_read 48 = .ok (.aload_n 2, 1) := by decide +kernel
theorem d8_read_49 : decode b8_read 49 = .ok (.invokevirtual 42, 3) := by decide +kernel
theorem d8_read_52 : decode b8_read 52 = .ok (.goto 26, 3) := by decide +kernel
theorem d8_read_55 : decode b8_read 55 = .ok (.aload_n 1, 1) := by decide +kernel
theorem d8_read_56 : decode b8_read 56 = .ok (.ldc 45, 2) := by decide +kernel
theorem d8_read_58 : decode b8_read 58 = .ok (.invokevirtual 38, 3) := by decide +kernel
theorem d8_read_61 : decode b8_read 61 = .ok (.ifCond .eq 12, 3) := by decide +kernel
theorem d8_read_64 : decode b8_read 64 = .ok (.aload_n 0, 1) := by decide +kernel
theorem d8_read_65 : decode b8_read 65 = .ok (.aload_n 1, 1) := by decide +kernel
theorem d8_read_66 : decode b8_read 66 = .ok (.aload_n 2, 1) := by decide +kernel
theorem d8_read_67 : decode b8_read 67 = .ok (.invokevirtual 47, 3) := by decide +kernel
theorem d8_read_70 : decode b8_read 70 = .ok (.goto 8, 3) := by decide +kernel
theorem d8_read_73 : decode b8_read 73 = .ok (.aload_n 1, 1) := by decide +kernel
theorem d8_read_74 : decode b8_read 74 = .ok (.iconst 1, 1) := by decide +kernel
theorem d8_read_75 : decode b8_read 75 = .ok (.invokevirtual 50, 3) := by decide +kernel
theorem d8_read_78 : decode b8_read 78 = .ok (.aload_n 1, 1) := by decide +kernel
theorem d8_read_79 : decode b8_read 79 = .ok (.invokevirtual 54, 3) := by decide +kernel
theorem d8_read_82 : decode b8_read 82 = .ok (.aload_n 2, 1) := by decide +kernel
theorem d8_read_83 : decode b8_read 83 = .ok (.iload_n 3, 1) := by decide +kernel
theorem d8_read_84 : decode b8_read 84 = .ok (.iconst 1, 1) := by decide +kernel
theorem d8_read_85 : decode b8_read 85 = .ok (.iadd, 1) := by decide +kernel
theorem d8_read_86 : decode b8_read 86 = .ok (.putfield 57, 3) := by decide +kernel
theorem d8_read_89 : decode b8_read 89 = .ok (.iinc 3 1, 3) := by decide +kernel
theorem d8_read_92 : decode b8_read 92 = .ok (.goto (-82), 3) := by decide +kernel
theorem d8_read_95 : decode b8_read 95 = .ok (.return_, 1) := by decide +kernel
theorem fl_8_57 : Cond.fieldLink cn_8 57 (ft_5 0).1 (ft_5 0).2.1 (ft_5 0).2.2.1 ∈ ce_cm := ce_cm_of (List.mem_of_getElem? (i := 193) (by decide +kernel)) (by decide +kernel)
theorem gf_8_57 (C : ce_Cx p s m args c meth cc nL ret cn_8 D ad cA B0 (ce_St aK aV B0)) (hH : ce_H D ad cA B0 X s h H locs) {k : Nat} (hk : ce_isNet k) (hdg : decode cc pc = .ok (.getfield 57, 3)) (kk : W p l e0 R s m args below meth c H locs cells slots Q (F0 m (pc + 3) ls (.int (h k 0) :: rest))) : W p l e0 R s m args below meth c H locs cells slots Q (F0 m pc ls (.ref (ad k) :: rest)) := by
  rcases hk with rfl | rfl
  · exact ce_get C hH (k := 7) (ci := 5) (j := 0) (N := 11) (sj := none) (by decide) rfl rfl fw_5 (by decide) fl_8_57 rfl hdg kk
  · exact ce_get C hH (k := 14) (ci := 5) (j := 0) (N := 11) (sj := none) (by decide) rfl rfl fw_5 (by decide) fl_8_57 rfl hdg kk
theorem pf_8_57 (C : ce_Cx p s m args c meth cc nL ret cn_8 D ad cA B0 (ce_St aK aV B0)) (hH : ce_H D ad cA B0 X s h H locs) {k : Nat} (hk : ce_isNet k) {x : Int32} (hdg : decode cc pc = .ok (.putfield 57, 3)) (kk : ∀ (H1 : Heap) (locs1 : List Loc), ce_H D ad cA B0 X s (hp_up h k 0 x) H1 locs1 → W p l e0 R s m args below meth c H1 locs1 cells slots Q (F0 m (pc + 3) ls rest)) : W p l e0 R s m args below meth c H locs cells slots Q (F0 m pc ls (.int x :: .ref (ad k) :: rest)) := by
  rcases hk with rfl | rfl
  · exact ce_put C hH (k := 7) (ci := 5) (j := 0) (N := 11) (fy := fy_5) (sj := none) x (by decide) rfl rfl fw_5 fo_5 fn_5 (by decide) fl_8_57 rfl rfl (v := .int x) (by simp [ce_slot, upd]) rfl rfl hdg kk
  · exact ce_put C hH (k := 14) (ci := 5) (j := 0) (N := 11) (fy := fy_5) (sj := none) x (by decide) rfl rfl fw_5 fo_5 fn_5 (by decide) fl_8_57 rfl rfl (v := .int x) (by simp [ce_slot, upd]) rfl rfl hdg kk
theorem ml_8_54 : Cond.methodLink cn_8 54 y6_takeSign ∈ ce_cm := ce_cm_of (List.mem_of_getElem? (i := 684) (by decide +kernel)) (by decide +kernel)
theorem mc8_readCable : Cond.code y8_readCable b8_readCable 8 none ∈ ce_cm := ce_cm_of (List.mem_of_getElem? (i := 649) (by decide +kernel)) (by decide +kernel)
theorem ml_8_47 : Cond.methodLink cn_8 47 y8_readCable ∈ ce_cm := ce_cm_of (List.mem_of_getElem? (i := 646) (by decide +kernel)) (by decide +kernel)
theorem mi8_readCable : Cond.instanceMethod y8_readCable ∈ ce_cm := ce_cm_of (List.mem_of_getElem? (i := 648) (by decide +kernel)) (by decide +kernel)
theorem ms8_readCable : Cond.selects cn_8 y8_readCable y8_readCable ∈ ce_cm := ce_cm_of (List.mem_of_getElem? (i := 7) (by decide +kernel)) (by decide +kernel)
theorem mc8_readNode : Cond.code y8_readNode b8_readNode 4 none ∈ ce_cm := ce_cm_of (List.mem_of_getElem? (i := 607) (by decide +kernel)) (by decide +kernel)
theorem ml_8_42 : Cond.methodLink cn_8 42 y8_readNode ∈ ce_cm := ce_cm_of (List.mem_of_getElem? (i := 604) (by decide +kernel)) (by decide +kernel)
theorem mi8_readNode : Cond.instanceMethod y8_readNode ∈ ce_cm := ce_cm_of (List.mem_of_getElem? (i := 606) (by decide +kernel)) (by decide +kernel)
theorem ms8_readNode : Cond.selects cn_8 y8_readNode y8_readNode ∈ ce_cm := ce_cm_of (List.mem_of_getElem? (i := 1) (by decide +kernel)) (by decide +kernel)
theorem mc8_readBus : Cond.code y8_readBus b8_readBus 3 none ∈ ce_cm := ce_cm_of (List.mem_of_getElem? (i := 530) (by decide +kernel)) (by decide +kernel)
theorem ml_8_32 : Cond.methodLink cn_8 32 y8_readBus ∈ ce_cm := ce_cm_of (List.mem_of_getElem? (i := 527) (by decide +kernel)) (by decide +kernel)
theorem mi8_readBus : Cond.instanceMethod y8_readBus ∈ ce_cm := ce_cm_of (List.mem_of_getElem? (i := 529) (by decide +kernel)) (by decide +kernel)
theorem ms8_readBus : Cond.selects cn_8 y8_readBus y8_readBus ∈ ce_cm := ce_cm_of (List.mem_of_getElem? (i := 0) (by decide +kernel)) (by decide +kernel)
theorem ml_8_28 : Cond.methodLink cn_8 28 y6_goesOn ∈ ce_cm := ce_cm_of (List.mem_of_getElem? (i := 519) (by decide +kernel)) (by decide +kernel)
theorem ml_8_23 : Cond.methodLink cn_8 23 y6_begin ∈ ce_cm := ce_cm_of (List.mem_of_getElem? (i := 501) (by decide +kernel)) (by decide +kernel)
theorem mc5_clear : Cond.code y5_clear b5_clear 1 none ∈ ce_cm := ce_cm_of (List.mem_of_getElem? (i := 500) (by decide +kernel)) (by decide +kernel)
theorem ml_8_18 : Cond.methodLink cn_8 18 y5_clear ∈ ce_cm := ce_cm_of (List.mem_of_getElem? (i := 497) (by decide +kernel)) (by decide +kernel)
theorem mi5_clear : Cond.instanceMethod y5_clear ∈ ce_cm := ce_cm_of (List.mem_of_getElem? (i := 498) (by decide +kernel)) (by decide +kernel)
theorem ms5_clear : Cond.selects cn_5 y5_clear y5_clear ∈ ce_cm := ce_cm_of (List.mem_of_getElem? (i := 499) (by decide +kernel)) (by decide +kernel)
def f8_read_b10 (F : Nat) (k2 : Nat) (x3 : Int32) (h : Hp) : Option ((Int32 × Hp) ⊕ (Hp)) :=
  if (700 : Int32) ≤ x3 then
    some (.inr h)
  else
    Option.bind (f6_goesOn F  h) (fun o18 =>
      if o18.1 = 0 then
        some (.inr o18.2)
      else
        if x3 = 0 then
          Option.bind (f8_readBus F k2 o18.2) (fun o31 =>
            Option.bind (f6_takeSign F  o31) (fun o79 =>
              ce_nm (hp_up o79 k2 0 (x3 + (1 : Int32))) (fun h_86 =>
                some (.inl (x3 + (1 : Int32), h_86)))))
        else
          Option.bind (f6_isWord F 3 o18.2) (fun o40 =>
            if o40.1 = 0 then
              Option.bind (f6_isWord F 4 o40.2) (fun o58 =>
                if o58.1 = 0 then
                  Option.bind (f6_refuse F (1 : Int32) o58.2) (fun o75 =>
                    Option.bind (f6_takeSign F  o75) (fun o79 =>
                      ce_nm (hp_up o79 k2 0 (x3 + (1 : Int32))) (fun h_86 =>
                        some (.inl (x3 + (1 : Int32), h_86)))))
                else
                  Option.bind (f8_readCable F k2 o58.2) (fun o67 =>
                    Option.bind (f6_takeSign F  o67) (fun o79 =>
                      ce_nm (hp_up o79 k2 0 (x3 + (1 : Int32))) (fun h_86 =>
                        some (.inl (x3 + (1 : Int32), h_86))))))
            else
              Option.bind (f8_readNode F k2 o40.2) (fun o49 =>
                Option.bind (f6_takeSign F  o49) (fun o79 =>
                  ce_nm (hp_up o79 k2 0 (x3 + (1 : Int32))) (fun h_86 =>
                    some (.inl (x3 + (1 : Int32), h_86)))))))
set_option maxRecDepth 20000 in
theorem l8_read_10 (C : ce_Cx p s m args c meth b8_read 4 none cn_8 D ad cA B0 (ce_St aK aV B0)) (F : Nat) (k2 : Nat) (hk2 : ce_isNet k2) (r : Hp) (g : (Hp) → Option (Hp)) (hx : ∀  (h : Hp) (H : Heap) (locs : List Loc) (ls : Array Slot), ce_H D ad cA B0 [] s h H locs → lv_has ls 4 [] → g h = some r → W p l e0 { frames := 13, cells := 0, slots := 0, locals := 309 } s m args below meth c H locs 0 0 (MQ below (ce_Q D ad cA B0 (ce_St aK aV B0) none r) args s 0 0 (fun q => B0 ≤ q)) (F0 m 95 ls [])) : ∀ (n : Nat) (x3 : Int32) (h : Hp) (H : Heap) (locs : List Loc) (ls : Array Slot), ce_H D ad cA B0 [] s h H locs → lv_has ls 4 [(0, .ref (ad 4)), (1, .ref (ad 1)), (2, .ref (ad k2)), (3, .int x3)] → Option.bind (ce_it (fun (st : Int32 × Hp) => f8_read_b10 F k2 st.1 st.2) n (x3, h)) g = some r → W p l e0 { frames := 13, cells := 0, slots := 0, locals := 309 } s m args below meth c H locs 0 0 (MQ below (ce_Q D ad cA B0 (ce_St aK aV B0) none r) args s 0 0 (fun q => B0 ≤ q)) (F0 m 10 ls []) := by
  intro n
  induction n with
  | zero =>
    intro x3 h H locs ls hH hl e
    exact absurd e (fun z => by cases z)
  | succ n ih =>
    intro x3 h H locs ls hH hl e
    have hx9 := C.1
    have hb := C.2.1
    have e : Option.bind (f8_read_b10 F k2 x3 h) _ = some r := ce_it_bd e
    unfold f8_read_b10 at e
    refine lv_iload_n hx9 hb d8_read_10 rfl (lv_at hl 3 rfl) ?_
    refine lv_sipush (v := (700 : Int32)) hx9 hb d8_read_11 (by decide) ?_
    refine lv_icmp_ge (tgt := 95) hx9 hb d8_read_14 (by decide) (fun hc14 => ?_) (fun hc14 => ?_)
    · have e := ce_if1 e hc14
      exact hx  h _ _ _ hH (lv_sub hl [] rfl) e
    · have e := ce_if0 e hc14
      refine lv_aload_n hx9 hb d8_read_17 rfl (lv_at hl 1 rfl) ?_
      obtain ⟨o18, eo18, e⟩ := ce_bd e
      refine ce_callV (As := []) (rest := []) C (ce_sok aK aV B0) hH (c6_goesOn l D ad cA aK aV B0 C.2.2.2.2.2.2.1 F   h o18 eo18) lo_1.1 lo_1.2.choose_spec rfl rfl mc6_goesOn ml_8_28 mi6_goesOn ms6_goesOn mI_6 (n := 0) (by decide) rfl ⟨Nat.le_of_ble_eq_true rfl, Nat.le_of_ble_eq_true rfl⟩ ⟨Nat.le_of_ble_eq_true rfl, Nat.le_of_ble_eq_true rfl⟩ hl.1 rfl (Nat.le_of_ble_eq_true rfl) d8_read_18 (fun H locs hH => ?_)
      refine W.eq (g2 := F0 m 21 ls [.int o18.1]) rfl ?_
      refine lv_if_eq (tgt := 95) hx9 hb d8_read_21 (by decide) (fun hc21 => ?_) (fun hc21 => ?_)
      · have e := ce_if1 e hc21
        exact hx  o18.2 _ _ _ hH (lv_sub hl [] rfl) e
      · have e := ce_if0 e hc21
        refine lv_iload_n hx9 hb d8_read_24 rfl (lv_at hl 3 rfl) ?_
        refine lv_if_ne (tgt := 37) hx9 hb d8_read_25 (by decide) (fun hc25 => ?_) (fun hc25 => ?_)
        · have e := ce_if0 e hc25
          refine lv_aload_n hx9 hb d8_read_37 rfl (lv_at hl 1 rfl) ?_
          refine va_ldcS hx9 hb C.2.2.2.1 (ce_srR C.2.2.2.2.2.2.2.2.2.2 3 rfl) d8_read_38 ?_
          obtain ⟨o40, eo40, e⟩ := ce_bd e
          refine ce_callV (As := [.ref (aK 3)]) (rest := []) C (ce_sok aK aV B0) hH (c6_isWord l D ad cA aK aV B0 C.2.2.2.2.2.2.1 F 3 (by decide) o18.2 o40 eo40) lo_1.1 lo_1.2.choose_spec rfl rfl mc6_isWord ml_8_38 mi6_isWord ms6_isWord mI_6 (n := 1) (by decide) rfl ⟨Nat.le_of_ble_eq_true rfl, Nat.le_of_ble_eq_true rfl⟩ ⟨Nat.le_of_ble_eq_true rfl, Nat.le_of_ble_eq_true rfl⟩ hl.1 rfl (Nat.le_of_ble_eq_true rfl) d8_read_40 (fun H locs hH => ?_)
          refine W.eq (g2 := F0 m 43 ls [.int o40.1]) rfl ?_
          refine lv_if_eq (tgt := 55) hx9 hb d8_read_43 (by decide) (fun hc43 => ?_) (fun hc43 => ?_)
          · have e := ce_if1 e hc43
            refine lv_aload_n hx9 hb d8_read_55 rfl (lv_at hl 1 rfl) ?_
            refine va_ldcS hx9 hb C.2.2.2.1 (ce_srR C.2.2.2.2.2.2.2.2.2.2 4 rfl) d8_read_56 ?_
            obtain ⟨o58, eo58, e⟩ := ce_bd e
            refine ce_callV (As := [.ref (aK 4)]) (rest := []) C (ce_sok aK aV B0) hH (c6_isWord l D ad cA aK aV B0 C.2.2.2.2.2.2.1 F 4 (by decide) o40.2 o58 eo58) lo_1.1 lo_1.2.choose_spec rfl rfl mc6_isWord ml_8_38 mi6_isWord ms6_isWord mI_6 (n := 1) (by decide) rfl ⟨Nat.le_of_ble_eq_true rfl, Nat.le_of_ble_eq_true rfl⟩ ⟨Nat.le_of_ble_eq_true rfl, Nat.le_of_ble_eq_true rfl⟩ hl.1 rfl (Nat.le_of_ble_eq_true rfl) d8_read_58 (fun H locs hH => ?_)
            refine W.eq (g2 := F0 m 61 ls [.int o58.1]) rfl ?_
            refine lv_if_eq (tgt := 73) hx9 hb d8_read_61 (by decide) (fun hc61 => ?_) (fun hc61 => ?_)
            · have e := ce_if1 e hc61
              refine lv_aload_n hx9 hb d8_read_73 rfl (lv_at hl 1 rfl) ?_
              refine lv_iconst (v := (1 : Int32)) hx9 hb d8_read_74 (by decide) ?_
              obtain ⟨o75, eo75, e⟩ := ce_bd e
              refine ce_callV (As := [.int (1 : Int32)]) (rest := []) C (ce_sok aK aV B0) hH (c6_refuse l D ad cA aK aV B0 C.2.2.2.2.2.2.1 F (1 : Int32)  o58.2 o75 eo75) lo_1.1 lo_1.2.choose_spec rfl rfl mc6_refuse ml_8_50 mi6_refuse ms6_refuse mI_6 (n := 1) (by decide) rfl ⟨Nat.le_of_ble_eq_true rfl, Nat.le_of_ble_eq_true rfl⟩ ⟨Nat.le_of_ble_eq_true rfl, Nat.le_of_ble_eq_true rfl⟩ hl.1 rfl (Nat.le_of_ble_eq_true rfl) d8_read_75 (fun H locs hH => ?_)
              refine W.eq (g2 := F0 m 78 ls []) rfl ?_
              refine lv_aload_n hx9 hb d8_read_78 rfl (lv_at hl 1 rfl) ?_
              obtain ⟨o79, eo79, e⟩ := ce_bd e
              refine ce_callV (As := []) (rest := []) C (ce_sok aK aV B0) hH (c6_takeSign l D ad cA aK aV B0 C.2.2.2.2.2.2.1 F   o75 o79 eo79) lo_1.1 lo_1.2.choose_spec rfl rfl mc6_takeSign ml_8_54 mi6_takeSign ms6_takeSign mI_6 (n := 0) (by decide) rfl ⟨Nat.le_of_ble_eq_true rfl, Nat.le_of_ble_eq_true rfl⟩ ⟨Nat.le_of_ble_eq_true rfl, Nat.le_of_ble_eq_true rfl⟩ hl.1 rfl (Nat.le_of_ble_eq_true rfl) d8_read_79 (fun H locs hH => ?_)
              refine W.eq (g2 := F0 m 82 ls []) rfl ?_
              refine lv_aload_n hx9 hb d8_read_82 rfl (lv_at hl 2 rfl) ?_
              refine lv_iload_n hx9 hb d8_read_83 rfl (lv_at hl 3 rfl) ?_
              refine lv_iconst (v := (1 : Int32)) hx9 hb d8_read_84 (by decide) ?_
              refine lv_iadd hx9 hb d8_read_85 ?_
              refine pf_8_57 C hH hk2 d8_read_86 (fun H locs hH => ?_)
              obtain ⟨h_86, eh_86, e⟩ := ce_nmE e
              rw [← eh_86] at hH
              refine lv_iinc (v := x3 + (1 : Int32)) (lv' := [(3, .int (x3 + (1 : Int32))), (0, .ref (ad 4)), (1, .ref (ad 1)), (2, .ref (ad k2))]) hx9 hb d8_read_89 hl (k := 3) rfl rfl (by decide) rfl (fun ls hl => ?_)
              refine lv_goto (tgt := 10) hx9 hb d8_read_92 (by decide) ?_
              exact ih (x3 + (1 : Int32)) h_86 _ _ _ hH (lv_sub hl [1, 2, 3, 0] rfl) e
            · have e := ce_if0 e hc61
              refine lv_aload_n hx9 hb d8_read_64 rfl (lv_at hl 0 rfl) ?_
              refine lv_aload_n hx9 hb d8_read_65 rfl (lv_at hl 1 rfl) ?_
              refine lv_aload_n hx9 hb d8_read_66 rfl (lv_at hl 2 rfl) ?_
              obtain ⟨o67, eo67, e⟩ := ce_bd e
              refine ce_callV (As := [.ref (ad 1), .ref (ad k2)]) (rest := []) C (ce_sok aK aV B0) hH (c8_readCable l D ad cA aK aV B0 C.2.2.2.2.2.2.1 F k2 hk2 o58.2 o67 eo67) lo_4.1 lo_4.2.choose_spec rfl rfl mc8_readCable ml_8_47 mi8_readCable ms8_readCable mI_8 (n := 2) (by decide) rfl ⟨Nat.le_of_ble_eq_true rfl, Nat.le_of_ble_eq_true rfl⟩ ⟨Nat.le_of_ble_eq_true rfl, Nat.le_of_ble_eq_true rfl⟩ hl.1 rfl (Nat.le_of_ble_eq_true rfl) d8_read_67 (fun H locs hH => ?_)
              refine W.eq (g2 := F0 m 70 ls []) rfl ?_
              refine lv_goto (tgt := 78) hx9 hb d8_read_70 (by decide) ?_
              refine lv_aload_n hx9 hb d8_read_78 rfl (lv_at hl 1 rfl) ?_
              obtain ⟨o79, eo79, e⟩ := ce_bd e
              refine ce_callV (As := []) (rest := []) C (ce_sok aK aV B0) hH (c6_takeSign l D ad cA aK aV B0 C.2.2.2.2.2.2.1 F   o67 o79 eo79) lo_1.1 lo_1.2.choose_spec rfl rfl mc6_takeSign ml_8_54 mi6_takeSign ms6_takeSign mI_6 (n := 0) (by decide) rfl ⟨Nat.le_of_ble_eq_true rfl, Nat.le_of_ble_eq_true rfl⟩ ⟨Nat.le_of_ble_eq_true rfl, Nat.le_of_ble_eq_true rfl⟩ hl.1 rfl (Nat.le_of_ble_eq_true rfl) d8_read_79 (fun H locs hH => ?_)
              refine W.eq (g2 := F0 m 82 ls []) rfl ?_
              refine lv_aload_n hx9 hb d8_read_82 rfl (lv_at hl 2 rfl) ?_
              refine lv_iload_n hx9 hb d8_read_83 rfl (lv_at hl 3 rfl) ?_
              refine lv_iconst (v := (1 : Int32)) hx9 hb d8_read_84 (by decide) ?_
              refine lv_iadd hx9 hb d8_read_85 ?_
              refine pf_8_57 C hH hk2 d8_read_86 (fun H locs hH => ?_)
              obtain ⟨h_86, eh_86, e⟩ := ce_nmE e
              rw [← eh_86] at hH
              refine lv_iinc (v := x3 + (1 : Int32)) (lv' := [(3, .int (x3 + (1 : Int32))), (0, .ref (ad 4)), (1, .ref (ad 1)), (2, .ref (ad k2))]) hx9 hb d8_read_89 hl (k := 3) rfl rfl (by decide) rfl (fun ls hl => ?_)
              refine lv_goto (tgt := 10) hx9 hb d8_read_92 (by decide) ?_
              exact ih (x3 + (1 : Int32)) h_86 _ _ _ hH (lv_sub hl [1, 2, 3, 0] rfl) e
          · have e := ce_if0 e hc43
            refine lv_aload_n hx9 hb d8_read_46 rfl (lv_at hl 0 rfl) ?_
            refine lv_aload_n hx9 hb d8_read_47 rfl (lv_at hl 1 rfl) ?_
            refine lv_aload_n hx9 hb d8_read_48 rfl (lv_at hl 2 rfl) ?_
            obtain ⟨o49, eo49, e⟩ := ce_bd e
            refine ce_callV (As := [.ref (ad 1), .ref (ad k2)]) (rest := []) C (ce_sok aK aV B0) hH (c8_readNode l D ad cA aK aV B0 C.2.2.2.2.2.2.1 F k2 hk2 o40.2 o49 eo49) lo_4.1 lo_4.2.choose_spec rfl rfl mc8_readNode ml_8_42 mi8_readNode ms8_readNode mI_8 (n := 2) (by decide) rfl ⟨Nat.le_of_ble_eq_true rfl, Nat.le_of_ble_eq_true rfl⟩ ⟨Nat.le_of_ble_eq_true rfl, Nat.le_of_ble_eq_true rfl⟩ hl.1 rfl (Nat.le_of_ble_eq_true rfl) d8_read_49 (fun H locs hH => ?_)
            refine W.eq (g2 := F0 m 52 ls []) rfl ?_
            refine lv_goto (tgt := 78) hx9 hb d8_read_52 (by decide) ?_
            refine lv_aload_n hx9 hb d8_read_78 rfl (lv_at hl 1 rfl) ?_
            obtain ⟨o79, eo79, e⟩ := ce_bd e
            refine ce_callV (As := []) (rest := []) C (ce_sok aK aV B0) hH (c6_takeSign l D ad cA aK aV B0 C.2.2.2.2.2.2.1 F   o49 o79 eo79) lo_1.1 lo_1.2.choose_spec rfl rfl mc6_takeSign ml_8_54 mi6_takeSign ms6_takeSign mI_6 (n := 0) (by decide) rfl ⟨Nat.le_of_ble_eq_true rfl, Nat.le_of_ble_eq_true rfl⟩ ⟨Nat.le_of_ble_eq_true rfl, Nat.le_of_ble_eq_true rfl⟩ hl.1 rfl (Nat.le_of_ble_eq_true rfl) d8_read_79 (fun H locs hH => ?_)
            refine W.eq (g2 := F0 m 82 ls []) rfl ?_
            refine lv_aload_n hx9 hb d8_read_82 rfl (lv_at hl 2 rfl) ?_
            refine lv_iload_n hx9 hb d8_read_83 rfl (lv_at hl 3 rfl) ?_
            refine lv_iconst (v := (1 : Int32)) hx9 hb d8_read_84 (by decide) ?_
            refine lv_iadd hx9 hb d8_read_85 ?_
            refine pf_8_57 C hH hk2 d8_read_86 (fun H locs hH => ?_)
            obtain ⟨h_86, eh_86, e⟩ := ce_nmE e
            rw [← eh_86] at hH
            refine lv_iinc (v := x3 + (1 : Int32)) (lv' := [(3, .int (x3 + (1 : Int32))), (0, .ref (ad 4)), (1, .ref (ad 1)), (2, .ref (ad k2))]) hx9 hb d8_read_89 hl (k := 3) rfl rfl (by decide) rfl (fun ls hl => ?_)
            refine lv_goto (tgt := 10) hx9 hb d8_read_92 (by decide) ?_
            exact ih (x3 + (1 : Int32)) h_86 _ _ _ hH (lv_sub hl [1, 2, 3, 0] rfl) e
        · have e := ce_if1 e hc25
          refine lv_aload_n hx9 hb d8_read_28 rfl (lv_at hl 0 rfl) ?_
          refine lv_aload_n hx9 hb d8_read_29 rfl (lv_at hl 1 rfl) ?_
          refine lv_aload_n hx9 hb d8_read_30 rfl (lv_at hl 2 rfl) ?_
          obtain ⟨o31, eo31, e⟩ := ce_bd e
          refine ce_callV (As := [.ref (ad 1), .ref (ad k2)]) (rest := []) C (ce_sok aK aV B0) hH (c8_readBus l D ad cA aK aV B0 C.2.2.2.2.2.2.1 F k2 hk2 o18.2 o31 eo31) lo_4.1 lo_4.2.choose_spec rfl rfl mc8_readBus ml_8_32 mi8_readBus ms8_readBus mI_8 (n := 2) (by decide) rfl ⟨Nat.le_of_ble_eq_true rfl, Nat.le_of_ble_eq_true rfl⟩ ⟨Nat.le_of_ble_eq_true rfl, Nat.le_of_ble_eq_true rfl⟩ hl.1 rfl (Nat.le_of_ble_eq_true rfl) d8_read_31 (fun H locs hH => ?_)
          refine W.eq (g2 := F0 m 34 ls []) rfl ?_
          refine lv_goto (tgt := 78) hx9 hb d8_read_34 (by decide) ?_
          refine lv_aload_n hx9 hb d8_read_78 rfl (lv_at hl 1 rfl) ?_
          obtain ⟨o79, eo79, e⟩ := ce_bd e
          refine ce_callV (As := []) (rest := []) C (ce_sok aK aV B0) hH (c6_takeSign l D ad cA aK aV B0 C.2.2.2.2.2.2.1 F   o31 o79 eo79) lo_1.1 lo_1.2.choose_spec rfl rfl mc6_takeSign ml_8_54 mi6_takeSign ms6_takeSign mI_6 (n := 0) (by decide) rfl ⟨Nat.le_of_ble_eq_true rfl, Nat.le_of_ble_eq_true rfl⟩ ⟨Nat.le_of_ble_eq_true rfl, Nat.le_of_ble_eq_true rfl⟩ hl.1 rfl (Nat.le_of_ble_eq_true rfl) d8_read_79 (fun H locs hH => ?_)
          refine W.eq (g2 := F0 m 82 ls []) rfl ?_
          refine lv_aload_n hx9 hb d8_read_82 rfl (lv_at hl 2 rfl) ?_
          refine lv_iload_n hx9 hb d8_read_83 rfl (lv_at hl 3 rfl) ?_
          refine lv_iconst (v := (1 : Int32)) hx9 hb d8_read_84 (by decide) ?_
          refine lv_iadd hx9 hb d8_read_85 ?_
          refine pf_8_57 C hH hk2 d8_read_86 (fun H locs hH => ?_)
          obtain ⟨h_86, eh_86, e⟩ := ce_nmE e
          rw [← eh_86] at hH
          refine lv_iinc (v := x3 + (1 : Int32)) (lv' := [(3, .int (x3 + (1 : Int32))), (0, .ref (ad 4)), (1, .ref (ad 1)), (2, .ref (ad k2))]) hx9 hb d8_read_89 hl (k := 3) rfl rfl (by decide) rfl (fun ls hl => ?_)
          refine lv_goto (tgt := 10) hx9 hb d8_read_92 (by decide) ?_
          exact ih (x3 + (1 : Int32)) h_86 _ _ _ hH (lv_sub hl [1, 2, 3, 0] rfl) e
def f8_read (F : Nat) (k2 : Nat) (h : Hp) : Option (Hp) :=
  Option.bind (f5_clear F k2 h) (fun o1 =>
    Option.bind (f6_begin F  o1) (fun o5 =>
      Option.bind (ce_it (fun (st : Int32 × Hp) => f8_read_b10 F k2 st.1 st.2) F ((0 : Int32), o5)) (fun o10 =>
        some o10)))
set_option maxRecDepth 20000 in
theorem c8_read (l : Launch) (D : va_G) (ad : Nat → Nat) (cA : Nat → ClassId) (aK aV : Nat → Nat) (B0 : Nat) (hA : ce_Ad ad B0) (F : Nat) (k2 : Nat) (hk2 : ce_isNet k2) (h : Hp) (r : Hp) (e : f8_read F k2 h = some r) : ce_Ct l D ad cA B0 (ce_St aK aV B0) y8_read b8_read 4 none 13 309 0 0 [.ref (ad 4), .ref (ad 1), .ref (ad k2)] h none r := by
  refine ce_enter hA (by decide) rfl (Nat.le_of_ble_eq_true rfl) (fun p e0 s m below meth c ls C hH hl => ?_)
  have hl : lv_has ls 4 [(0, .ref (ad 4)), (1, .ref (ad 1)), (2, .ref (ad k2))] := hl
  have hx := C.1
  have hb := C.2.1
  have e : Option.bind _ some = some r := (congrArg (fun z => Option.bind z some) e).trans rfl
  unfold f8_read at e
  refine lv_aload_n hx hb d8_read_0 rfl (lv_at hl 2 rfl) ?_
  obtain ⟨o1, eo1, e⟩ := ce_bd e
  refine ce_callV (As := []) (rest := []) C (ce_sok aK aV B0) hH (c5_clear l D ad cA aK aV B0 C.2.2.2.2.2.2.1 F k2 hk2 h o1 eo1) (lk_Net hk2).1 (lk_Net hk2).2.choose_spec rfl rfl mc5_clear ml_8_18 mi5_clear ms5_clear mI_5 (n := 0) (by decide) rfl ⟨Nat.le_of_ble_eq_true rfl, Nat.le_of_ble_eq_true rfl⟩ ⟨Nat.le_of_ble_eq_true rfl, Nat.le_of_ble_eq_true rfl⟩ hl.1 rfl (Nat.le_of_ble_eq_true rfl) d8_read_1 (fun H locs hH => ?_)
  refine W.eq (g2 := F0 m 4 ls []) rfl ?_
  refine lv_aload_n hx hb d8_read_4 rfl (lv_at hl 1 rfl) ?_
  obtain ⟨o5, eo5, e⟩ := ce_bd e
  refine ce_callV (As := []) (rest := []) C (ce_sok aK aV B0) hH (c6_begin l D ad cA aK aV B0 C.2.2.2.2.2.2.1 F   o1 o5 eo5) lo_1.1 lo_1.2.choose_spec rfl rfl mc6_begin ml_8_23 mi6_begin ms6_begin mI_6 (n := 0) (by decide) rfl ⟨Nat.le_of_ble_eq_true rfl, Nat.le_of_ble_eq_true rfl⟩ ⟨Nat.le_of_ble_eq_true rfl, Nat.le_of_ble_eq_true rfl⟩ hl.1 rfl (Nat.le_of_ble_eq_true rfl) d8_read_5 (fun H locs hH => ?_)
  refine W.eq (g2 := F0 m 8 ls []) rfl ?_
  refine lv_iconst (v := (0 : Int32)) hx hb d8_read_8 (by decide) ?_
  refine lv_istore_n (lv' := [(3, .int (0 : Int32)), (0, .ref (ad 4)), (1, .ref (ad 1)), (2, .ref (ad k2))]) hx hb d8_read_9 rfl hl (by decide) rfl (fun ls hl => ?_)
  refine l8_read_10 C F k2 hk2 r _ (fun  h_10 H locs ls hH hl e => ?_) F (0 : Int32) o5 _ _ _ hH (lv_sub hl [1, 2, 3, 0] rfl) (ce_as e)
  try dsimp only at e
  exact ce_vret C (ce_sok aK aV B0) hH (Option.some.inj e) d8_read_95
abbrev b11_feed : ByteArray := prog_1_method_2_code
def y11_feed : MethodName := ⟨cn_11, "feed", "(IIIII)I"⟩
theorem d11_feed_0 : decode b11_feed 0 = .ok (.aload_n 0, 1) := by decide +kernel
theorem d11_feed_1 : decode b11_feed 1 = .ok (.getfield 10, 3) := by decide +kernel
theorem d11_feed_4 : decode b11_feed 4 = .ok (.getfield 88, 3) := by decide +kernel
theorem d11_feed_7 : decode b11_feed 7 = .ok (.astore 6, 2) := by decide +kernel
theorem d11_feed_9 : decode b11_feed 9 = .ok (.aload 6, 2) := by decide +kernel
theorem d11_feed_11 : decode b11_feed 11 = .ok (.getfield 92, 3) := by decide +kernel
theorem d11_feed_14 : decode b11_feed 14 = .ok (.bipush 20, 2) := by decide +kernel
theorem d11_feed_16 : decode b11_feed 16 = .ok (.iadd, 1) := by decide +kernel
theorem d11_feed_17 : decode b11_feed 17 = .ok (.sipush 700, 3) := by decide +kernel
theorem d11_feed_20 : decode b11_feed 20 = .ok (.if_icmp .le 5, 3) := by decide +kernel
theorem d11_feed_23 : decode b11_feed 23 = .ok (.iconst (-1), 1) := by decide +kernel
theorem d11_feed_24 : decode b11_feed 24 = .ok (.ireturn, 1) := by decide +kernel
theorem d11_feed_25 : decode b11_feed 25 = .ok (.aload 6, 2) := by decide +kernel
theorem d11_feed_27 : decode b11_feed 27 = .ok (.iload_n 1, 1) := by decide +kernel
theorem d11_feed_28 : decode b11_feed 28 = .ok (.invokevirtual 98, 3) := by decide +kernel
theorem d11_feed_31 : decode b11_feed 31 = .ok (.aload 6, 2) := by decide +kernel
theorem d11_feed_33 : decode b11_feed 33 = .ok (.iload_n 2, 1) := by decide +kernel
theorem d11_feed_34 : decode b11_feed 34 = .ok (.invokevirtual 98, 3) := by decide +kernel
theorem d11_feed_37 : decode b11_feed 37 = .ok (.aload 6, 2) := by decide +kernel
theorem d11_feed_39 : decode b11_feed 39 = .ok (.iload_n 3, 1) := by decide +kernel
theorem d11_feed_40 : decode b11_feed 40 = .ok (.invokevirtual 98, 3) := by decide +kernel
theorem d11_feed_43 : decode b11_feed 43 = .ok (.aload 6, 2) := by decide +kernel
theorem d11_feed_45 : decode b11_feed 45 = .ok (.iload 4, 2) := by decide +kernel
theorem d11_feed_47 : decode b11_feed 47 = .ok (.invokevirtual 98, 3) := by decide +kernel
theorem d11_feed_50 : decode b11_feed 50 = .ok (.aload 6, 2) := by decide +kernel
theorem d11_feed_52 : decode b11_feed 52 = .ok (.iload 5, 2) := by decide +kernel
theorem d11_feed_54 : decode b11_feed 54 = .ok (.invokevirtual 98, 3) := by decide +kernel
theorem d11_feed_57 : decode b11_feed 57 = .ok (.aload 6, 2) := by decide +kernel
theorem d11_feed_59 : decode b11_feed 59 = .ok (.getfield 92, 3) := by decide +kernel
theorem d11_feed_62 : decode b11_feed 62 = .ok (.ireturn, 1) := by decide +kernel
theorem fl_11_10 : Cond.fieldLink cn_11 10 (ft_11 0).1 (ft_11 0).2.1 (ft_11 0).2.2.1 ∈ ce_cm := ce_cm_of (List.mem_of_getElem? (i := 437) (by decide +kernel)) (by decide +kernel)
theorem gf_11_10 (C : ce_Cx p s m args c meth cc nL ret cn_11 D ad cA B0 (ce_St aK aV B0)) (hH : ce_H D ad cA B0 X s h H locs) (hdg : decode cc pc = .ok (.getfield 10, 3)) (kk : W p l e0 R s m args below meth c H locs cells slots Q (F0 m (pc + 3) ls (.ref (ad 1) :: rest))) : W p l e0 R s m args below meth c H locs cells slots Q (F0 m pc ls (.ref (ad 0) :: rest)) := by
  exact ce_get C hH (k := 0) (ci := 11) (j := 0) (N := 13) (sj := some (some 1)) (by decide) rfl rfl fw_11 (by decide) fl_11_10 rfl hdg kk
theorem fl_11_88 : Cond.fieldLink cn_11 88 (ft_6 0).1 (ft_6 0).2.1 (ft_6 0).2.2.1 ∈ ce_cm := ce_cm_of (List.mem_of_getElem? (i := 140) (by decide +kernel)) (by decide +kernel)
theorem gf_11_88 (C : ce_Cx p s m args c meth cc nL ret cn_11 D ad cA B0 (ce_St aK aV B0)) (hH : ce_H D ad cA B0 X s h H locs) (hdg : decode cc pc = .ok (.getfield 88, 3)) (kk : W p l e0 R s m args below meth c H locs cells slots Q (F0 m (pc + 3) ls (.ref (ad 2) :: rest))) : W p l e0 R s m args below meth c H locs cells slots Q (F0 m pc ls (.ref (ad 1) :: rest)) := by
  exact ce_get C hH (k := 1) (ci := 6) (j := 0) (N := 6) (sj := some (some 2)) (by decide) rfl rfl fw_6 (by decide) fl_11_88 rfl hdg kk
theorem fl_11_92 : Cond.fieldLink cn_11 92 (ft_7 1).1 (ft_7 1).2.1 (ft_7 1).2.2.1 ∈ ce_cm := ce_cm_of (List.mem_of_getElem? (i := 131) (by decide +kernel)) (by decide +kernel)
theorem gf_11_92 (C : ce_Cx p s m args c meth cc nL ret cn_11 D ad cA B0 (ce_St aK aV B0)) (hH : ce_H D ad cA B0 X s h H locs) (hdg : decode cc pc = .ok (.getfield 92, 3)) (kk : W p l e0 R s m args below meth c H locs cells slots Q (F0 m (pc + 3) ls (.int (h 2 1) :: rest))) : W p l e0 R s m args below meth c H locs cells slots Q (F0 m pc ls (.ref (ad 2) :: rest)) := by
  exact ce_get C hH (k := 2) (ci := 7) (j := 1) (N := 2) (sj := none) (by decide) rfl rfl fw_7 (by decide) fl_11_92 rfl hdg kk
theorem pf_11_92 (C : ce_Cx p s m args c meth cc nL ret cn_11 D ad cA B0 (ce_St aK aV B0)) (hH : ce_H D ad cA B0 X s h H locs) {x : Int32} (hdg : decode cc pc = .ok (.putfield 92, 3)) (kk : ∀ (H1 : Heap) (locs1 : List Loc), ce_H D ad cA B0 X s (hp_up h 2 1 x) H1 locs1 → W p l e0 R s m args below meth c H1 locs1 cells slots Q (F0 m (pc + 3) ls rest)) : W p l e0 R s m args below meth c H locs cells slots Q (F0 m pc ls (.int x :: .ref (ad 2) :: rest)) := by
  exact ce_put C hH (k := 2) (ci := 7) (j := 1) (N := 2) (fy := fy_7) (sj := none) x (by decide) rfl rfl fw_7 fo_7 fn_7 (by decide) fl_11_92 rfl rfl (v := .int x) (by simp [ce_slot, upd]) rfl rfl hdg kk
theorem mc7_append : Cond.code y7_append b7_append 3 none ∈ ce_cm := ce_cm_of (List.mem_of_getElem? (i := 484) (by decide +kernel)) (by decide +kernel)
theorem ml_11_98 : Cond.methodLink cn_11 98 y7_append ∈ ce_cm := ce_cm_of (List.mem_of_getElem? (i := 481) (by decide +kernel)) (by decide +kernel)
theorem mi7_append : Cond.instanceMethod y7_append ∈ ce_cm := ce_cm_of (List.mem_of_getElem? (i := 482) (by decide +kernel)) (by decide +kernel)
theorem ms7_append : Cond.selects cn_7 y7_append y7_append ∈ ce_cm := ce_cm_of (List.mem_of_getElem? (i := 483) (by decide +kernel)) (by decide +kernel)
def f11_feed (F : Nat) (x1 : Int32) (x2 : Int32) (x3 : Int32) (x4 : Int32) (x5 : Int32) (h : Hp) : Option (Int32 × Hp) :=
  if ((h 2 1) + (20 : Int32)) ≤ (700 : Int32) then
    Option.bind (f7_append F x1 h) (fun o28 =>
      Option.bind (f7_append F x2 o28) (fun o34 =>
        Option.bind (f7_append F x3 o34) (fun o40 =>
          Option.bind (f7_append F x4 o40) (fun o47 =>
            Option.bind (f7_append F x5 o47) (fun o54 =>
              some (o54 2 1, o54))))))
  else
    some ((-1 : Int32), h)
set_option maxRecDepth 20000 in
theorem c11_feed (l : Launch) (D : va_G) (ad : Nat → Nat) (cA : Nat → ClassId) (aK aV : Nat → Nat) (B0 : Nat) (hA : ce_Ad ad B0) (F : Nat) (x1 : Int32) (x2 : Int32) (x3 : Int32) (x4 : Int32) (x5 : Int32)  (h : Hp) (r : Int32 × Hp) (e : f11_feed F x1 x2 x3 x4 x5 h = some r) : ce_Ct l D ad cA B0 (ce_St aK aV B0) y11_feed b11_feed 7 (some .int) 1 22 0 0 [.ref (ad 0), .int x1, .int x2, .int x3, .int x4, .int x5] h (some (.int r.1)) r.2 := by
  refine ce_enter hA (by decide) rfl (Nat.le_of_ble_eq_true rfl) (fun p e0 s m below meth c ls C hH hl => ?_)
  have hl : lv_has ls 7 [(0, .ref (ad 0)), (1, .int x1), (2, .int x2), (3, .int x3), (4, .int x4), (5, .int x5)] := hl
  have hx := C.1
  have hb := C.2.1
  have e : Option.bind _ some = some r := (congrArg (fun z => Option.bind z some) e).trans rfl
  unfold f11_feed at e
  refine lv_aload_n hx hb d11_feed_0 rfl (lv_at hl 0 rfl) ?_
  refine gf_11_10 C hH d11_feed_1 ?_
  refine gf_11_88 C hH d11_feed_4 ?_
  refine lv_astore (lv' := [(6, .ref (ad 2)), (0, .ref (ad 0)), (1, .int x1), (2, .int x2), (3, .int x3), (4, .int x4), (5, .int x5)]) hx hb d11_feed_7 hl (by decide) rfl (fun ls hl => ?_)
  refine lv_aload hx hb d11_feed_9 (lv_at hl 0 rfl) ?_
  refine gf_11_92 C hH d11_feed_11 ?_
  refine lv_bipush (v := (20 : Int32)) hx hb d11_feed_14 (by decide) ?_
  refine lv_iadd hx hb d11_feed_16 ?_
  refine lv_sipush (v := (700 : Int32)) hx hb d11_feed_17 (by decide) ?_
  refine lv_icmp_le (tgt := 25) hx hb d11_feed_20 (by decide) (fun hc20 => ?_) (fun hc20 => ?_)
  · have e := ce_if1 e hc20
    refine lv_aload hx hb d11_feed_25 (lv_at hl 0 rfl) ?_
    refine lv_iload_n hx hb d11_feed_27 rfl (lv_at hl 2 rfl) ?_
    obtain ⟨o28, eo28, e⟩ := ce_bd e
    refine ce_callV (As := [.int x1]) (rest := []) C (ce_sok aK aV B0) hH (c7_append l D ad cA aK aV B0 C.2.2.2.2.2.2.1 F x1  h o28 eo28) lo_2.1 lo_2.2.choose_spec rfl rfl mc7_append ml_11_98 mi7_append ms7_append mI_7 (n := 1) (by decide) rfl ⟨Nat.le_of_ble_eq_true rfl, Nat.le_of_ble_eq_true rfl⟩ ⟨Nat.le_of_ble_eq_true rfl, Nat.le_of_ble_eq_true rfl⟩ hl.1 rfl (Nat.le_of_ble_eq_true rfl) d11_feed_28 (fun H locs hH => ?_)
    refine W.eq (g2 := F0 m 31 ls []) rfl ?_
    refine lv_aload hx hb d11_feed_31 (lv_at hl 0 rfl) ?_
    refine lv_iload_n hx hb d11_feed_33 rfl (lv_at hl 3 rfl) ?_
    obtain ⟨o34, eo34, e⟩ := ce_bd e
    refine ce_callV (As := [.int x2]) (rest := []) C (ce_sok aK aV B0) hH (c7_append l D ad cA aK aV B0 C.2.2.2.2.2.2.1 F x2  o28 o34 eo34) lo_2.1 lo_2.2.choose_spec rfl rfl mc7_append ml_11_98 mi7_append ms7_append mI_7 (n := 1) (by decide) rfl ⟨Nat.le_of_ble_eq_true rfl, Nat.le_of_ble_eq_true rfl⟩ ⟨Nat.le_of_ble_eq_true rfl, Nat.le_of_ble_eq_true rfl⟩ hl.1 rfl (Nat.le_of_ble_eq_true rfl) d11_feed_34 (fun H locs hH => ?_)
    refine W.eq (g2 := F0 m 37 ls []) rfl ?_
    refine lv_aload hx hb d11_feed_37 (lv_at hl 0 rfl) ?_
    refine lv_iload_n hx hb d11_feed_39 rfl (lv_at hl 4 rfl) ?_
    obtain ⟨o40, eo40, e⟩ := ce_bd e
    refine ce_callV (As := [.int x3]) (rest := []) C (ce_sok aK aV B0) hH (c7_append l D ad cA aK aV B0 C.2.2.2.2.2.2.1 F x3  o34 o40 eo40) lo_2.1 lo_2.2.choose_spec rfl rfl mc7_append ml_11_98 mi7_append ms7_append mI_7 (n := 1) (by decide) rfl ⟨Nat.le_of_ble_eq_true rfl, Nat.le_of_ble_eq_true rfl⟩ ⟨Nat.le_of_ble_eq_true rfl, Nat.le_of_ble_eq_true rfl⟩ hl.1 rfl (Nat.le_of_ble_eq_true rfl) d11_feed_40 (fun H locs hH => ?_)
    refine W.eq (g2 := F0 m 43 ls []) rfl ?_
    refine lv_aload hx hb d11_feed_43 (lv_at hl 0 rfl) ?_
    refine lv_iload hx hb d11_feed_45 (lv_at hl 5 rfl) ?_
    obtain ⟨o47, eo47, e⟩ := ce_bd e
    refine ce_callV (As := [.int x4]) (rest := []) C (ce_sok aK aV B0) hH (c7_append l D ad cA aK aV B0 C.2.2.2.2.2.2.1 F x4  o40 o47 eo47) lo_2.1 lo_2.2.choose_spec rfl rfl mc7_append ml_11_98 mi7_append ms7_append mI_7 (n := 1) (by decide) rfl ⟨Nat.le_of_ble_eq_true rfl, Nat.le_of_ble_eq_true rfl⟩ ⟨Nat.le_of_ble_eq_true rfl, Nat.le_of_ble_eq_true rfl⟩ hl.1 rfl (Nat.le_of_ble_eq_true rfl) d11_feed_47 (fun H locs hH => ?_)
    refine W.eq (g2 := F0 m 50 ls []) rfl ?_
    refine lv_aload hx hb d11_feed_50 (lv_at hl 0 rfl) ?_
    refine lv_iload hx hb d11_feed_52 (lv_at hl 6 rfl) ?_
    obtain ⟨o54, eo54, e⟩ := ce_bd e
    refine ce_callV (As := [.int x5]) (rest := []) C (ce_sok aK aV B0) hH (c7_append l D ad cA aK aV B0 C.2.2.2.2.2.2.1 F x5  o47 o54 eo54) lo_2.1 lo_2.2.choose_spec rfl rfl mc7_append ml_11_98 mi7_append ms7_append mI_7 (n := 1) (by decide) rfl ⟨Nat.le_of_ble_eq_true rfl, Nat.le_of_ble_eq_true rfl⟩ ⟨Nat.le_of_ble_eq_true rfl, Nat.le_of_ble_eq_true rfl⟩ hl.1 rfl (Nat.le_of_ble_eq_true rfl) d11_feed_54 (fun H locs hH => ?_)
    refine W.eq (g2 := F0 m 57 ls []) rfl ?_
    refine lv_aload hx hb d11_feed_57 (lv_at hl 0 rfl) ?_
    refine gf_11_92 C hH d11_feed_59 ?_
    exact ce_iretE C (ce_sok aK aV B0) hH e d11_feed_62
  · have e := ce_if0 e hc20
    refine lv_iconst (v := (-1 : Int32)) hx hb d11_feed_23 (by decide) ?_
    exact ce_iretE C (ce_sok aK aV B0) hH e d11_feed_24
abbrev b11_end : ByteArray := prog_1_method_3_code
def y11_end : MethodName := ⟨cn_11, "end", "(I)I"⟩
theorem d11_end_0 : decode b11_end 0 = .ok (.iload_n 1, 1) := by decide +kernel
theorem d11_end_1 : decode b11_end 1 = .ok (.ifCond .lt 17, 3) := by decide +kernel
theorem d11_end_4 : decode b11_end 4 = .ok (.iload_n 1, 1) := by decide +kernel
theorem d11_end_5 : decode b11_end 5 = .ok (.aload_n 0, 1) := by decide +kernel
theorem d11_end_6 : decode b11_end 6 = .ok (.getfield 10, 3) := by decide +kernel
theorem d11_end_9 : decode b11_end 9 = .ok (.getfield 88, 3) := by decide +kernel
theorem d11_end_12 : decode b11_end 12 = .ok (.getfield 92, 3) := by decide +kernel
theorem d11_end_15 : decode b11_end 15 = .ok (.if_icmp .le 5, 3) := by decide +kernel
theorem d11_end_18 : decode b11_end 18 = .ok (.iconst (-1), 1) := by decide +kernel
theorem d11_end_19 : decode b11_end 19 = .ok (.ireturn, 1) := by decide +kernel
theorem d11_end_20 : decode b11_end 20 = .ok (.aload_n 0, 1) := by decide +kernel
theorem d11_end_21 : decode b11_end 21 = .ok (.getfield 10, 3) := by decide +kernel
theorem d11_end_24 : decode b11_end 24 = .ok (.getfield 88, 3) := by decide +kernel
theorem d11_end_27 : decode b11_end 27 = .ok (.iload_n 1, 1) := by decide +kernel
theorem d11_end_28 : decode b11_end 28 = .ok (.putfield 92, 3) := by decide +kernel
theorem d11_end_31 : decode b11_end 31 = .ok (.iload_n 1, 1) := by decide +kernel
theorem d11_end_32 : decode b11_end 32 = .ok (.ireturn, 1) := by decide +kernel
def f11_end (F : Nat) (x1 : Int32) (h : Hp) : Option (Int32 × Hp) :=
  if x1 < 0 then
    some ((-1 : Int32), h)
  else
    if x1 ≤ (h 2 1) then
      ce_nm (hp_up h 2 1 x1) (fun h_28 =>
        some (x1, h_28))
    else
      some ((-1 : Int32), h)
set_option maxRecDepth 20000 in
theorem c11_end (l : Launch) (D : va_G) (ad : Nat → Nat) (cA : Nat → ClassId) (aK aV : Nat → Nat) (B0 : Nat) (hA : ce_Ad ad B0) (F : Nat) (x1 : Int32)  (h : Hp) (r : Int32 × Hp) (e : f11_end F x1 h = some r) : ce_Ct l D ad cA B0 (ce_St aK aV B0) y11_end b11_end 2 (some .int) 0 0 0 0 [.ref (ad 0), .int x1] h (some (.int r.1)) r.2 := by
  refine ce_enter hA (by decide) rfl (Nat.le_of_ble_eq_true rfl) (fun p e0 s m below meth c ls C hH hl => ?_)
  have hl : lv_has ls 2 [(0, .ref (ad 0)), (1, .int x1)] := hl
  have hx := C.1
  have hb := C.2.1
  have e : Option.bind _ some = some r := (congrArg (fun z => Option.bind z some) e).trans rfl
  unfold f11_end at e
  refine lv_iload_n hx hb d11_end_0 rfl (lv_at hl 1 rfl) ?_
  refine lv_if_lt (tgt := 18) hx hb d11_end_1 (by decide) (fun hc1 => ?_) (fun hc1 => ?_)
  · have e := ce_if1 e hc1
    refine lv_iconst (v := (-1 : Int32)) hx hb d11_end_18 (by decide) ?_
    exact ce_iretE C (ce_sok aK aV B0) hH e d11_end_19
  · have e := ce_if0 e hc1
    refine lv_iload_n hx hb d11_end_4 rfl (lv_at hl 1 rfl) ?_
    refine lv_aload_n hx hb d11_end_5 rfl (lv_at hl 0 rfl) ?_
    refine gf_11_10 C hH d11_end_6 ?_
    refine gf_11_88 C hH d11_end_9 ?_
    refine gf_11_92 C hH d11_end_12 ?_
    refine lv_icmp_le (tgt := 20) hx hb d11_end_15 (by decide) (fun hc15 => ?_) (fun hc15 => ?_)
    · have e := ce_if1 e hc15
      refine lv_aload_n hx hb d11_end_20 rfl (lv_at hl 0 rfl) ?_
      refine gf_11_10 C hH d11_end_21 ?_
      refine gf_11_88 C hH d11_end_24 ?_
      refine lv_iload_n hx hb d11_end_27 rfl (lv_at hl 1 rfl) ?_
      refine pf_11_92 C hH d11_end_28 (fun H locs hH => ?_)
      obtain ⟨h_28, eh_28, e⟩ := ce_nmE e
      rw [← eh_28] at hH
      refine lv_iload_n hx hb d11_end_31 rfl (lv_at hl 1 rfl) ?_
      exact ce_iretE C (ce_sok aK aV B0) hH e d11_end_32
    · have e := ce_if0 e hc15
      refine lv_iconst (v := (-1 : Int32)) hx hb d11_end_18 (by decide) ?_
      exact ce_iretE C (ce_sok aK aV B0) hH e d11_end_19
abbrev b11_refresh : ByteArray := prog_1_method_41_code
def y11_refresh : MethodName := ⟨cn_11, "refresh", "()V"⟩
theorem d11_refresh_0 : decode b11_refresh 0 = .ok (.aload_n 0, 1) := by decide +kernel
theorem d11_refresh_1 : decode b11_refresh 1 = .ok (.getfield 60, 3) := by decide +kernel
theorem d11_refresh_4 : decode b11_refresh 4 = .ok (.aload_n 0, 1) := by decide +kernel
theorem d11_refresh_5 : decode b11_refresh 5 = .ok (.getfield 26, 3) := by decide +kernel
theorem d11_refresh_8 : decode b11_refresh 8 = .ok (.aload_n 0, 1) := by decide +kernel
theorem d11_refresh_9 : decode b11_refresh 9 = .ok (.getfield 53, 3) := by decide +kernel
theorem d11_refresh_12 : decode b11_refresh 12 = .ok (.invokevirtual 323, 3) := by decide +kernel
theorem d11_refresh_15 : decode b11_refresh 15 = .ok (.aload_n 0, 1) := by decide +kernel
theorem d11_refresh_16 : decode b11_refresh 16 = .ok (.getfield 67, 3) := by decide +kernel
theorem d11_refresh_19 : decode b11_refresh 19 = .ok (.aload_n 0, 1) := by decide +kernel
theorem d11_refresh_20 : decode b11_refresh 20 = .ok (.getfield 26, 3) := by decide +kernel
theorem d11_refresh_23 : decode b11_refresh 23 = .ok (.iconst (-1), 1) := by decide +kernel
theorem d11_refresh_24 : decode b11_refresh 24 = .ok (.invokevirtual 281, 3) := by decide +kernel
theorem d11_refresh_27 : decode b11_refresh 27 = .ok (.aload_n 0, 1) := by decide +kernel
theorem d11_refresh_28 : decode b11_refresh 28 = .ok (.getfield 77, 3) := by decide +kernel
theorem d11_refresh_31 : decode b11_refresh 31 = .ok (.aload_n 0, 1) := by decide +kernel
theorem d11_refresh_32 : decode b11_refresh 32 = .ok (.getfield 26, 3) := by decide +kernel
theorem d11_refresh_35 : decode b11_refresh 35 = .ok (.aload_n 0, 1) := by decide +kernel
theorem d11_refresh_36 : decode b11_refresh 36 = .ok (.getfield 67, 3) := by decide +kernel
theorem d11_refresh_39 : decode b11_refresh 39 = .ok (.aload_n 0, 1) := by decide +kernel
theorem d11_refresh_40 : decode b11_refresh 40 = .ok (.getfield 60, 3) := by decide +kernel
theorem d11_refresh_43 : decode b11_refresh 43 = .ok (.invokevirtual 327, 3) := by decide +kernel
theorem d11_refresh_46 : decode b11_refresh 46 = .ok (.return_, 1) := by decide +kernel
theorem fl_11_60 : Cond.fieldLink cn_11 60 (ft_11 8).1 (ft_11 8).2.1 (ft_11 8).2.2.1 ∈ ce_cm := ce_cm_of (List.mem_of_getElem? (i := 445) (by decide +kernel)) (by decide +kernel)
theorem gf_11_60 (C : ce_Cx p s m args c meth cc nL ret cn_11 D ad cA B0 (ce_St aK aV B0)) (hH : ce_H D ad cA B0 X s h H locs) (hdg : decode cc pc = .ok (.getfield 60, 3)) (kk : W p l e0 R s m args below meth c H locs cells slots Q (F0 m (pc + 3) ls (.ref (ad 44) :: rest))) : W p l e0 R s m args below meth c H locs cells slots Q (F0 m pc ls (.ref (ad 0) :: rest)) := by
  exact ce_get C hH (k := 0) (ci := 11) (j := 8) (N := 13) (sj := some (some 44)) (by decide) rfl rfl fw_11 (by decide) fl_11_60 rfl hdg kk
theorem fl_11_26 : Cond.fieldLink cn_11 26 (ft_11 2).1 (ft_11 2).2.1 (ft_11 2).2.2.1 ∈ ce_cm := ce_cm_of (List.mem_of_getElem? (i := 439) (by decide +kernel)) (by decide +kernel)
theorem gf_11_26 (C : ce_Cx p s m args c meth cc nL ret cn_11 D ad cA B0 (ce_St aK aV B0)) (hH : ce_H D ad cA B0 X s h H locs) (hdg : decode cc pc = .ok (.getfield 26, 3)) (kk : W p l e0 R s m args below meth c H locs cells slots Q (F0 m (pc + 3) ls (.ref (ad (h 0 2).toNatClampNeg) :: rest))) : W p l e0 R s m args below meth c H locs cells slots Q (F0 m pc ls (.ref (ad 0) :: rest)) := by
  exact ce_get C hH (k := 0) (ci := 11) (j := 2) (N := 13) (sj := some none) (by decide) rfl rfl fw_11 (by decide) fl_11_26 rfl hdg kk
theorem pf_11_26 (C : ce_Cx p s m args c meth cc nL ret cn_11 D ad cA B0 (ce_St aK aV B0)) (hH : ce_H D ad cA B0 X s h H locs) {k : Nat} (hk : ce_isNet k) (hdg : decode cc pc = .ok (.putfield 26, 3)) (kk : ∀ (H1 : Heap) (locs1 : List Loc), ce_H D ad cA B0 X s (hp_up h 0 2 (nI k)) H1 locs1 → W p l e0 R s m args below meth c H1 locs1 cells slots Q (F0 m (pc + 3) ls rest)) : W p l e0 R s m args below meth c H locs cells slots Q (F0 m pc ls (.ref (ad k) :: .ref (ad 0) :: rest)) := by
  rcases hk with rfl | rfl
  · exact ce_put C hH (k := 0) (ci := 11) (j := 2) (N := 13) (fy := fy_11) (sj := some none) _ (by decide) rfl rfl fw_11 fo_11 fn_11 (by decide) fl_11_26 rfl rfl (by simp [ce_slot, upd, nI]) rfl rfl hdg kk
  · exact ce_put C hH (k := 0) (ci := 11) (j := 2) (N := 13) (fy := fy_11) (sj := some none) _ (by decide) rfl rfl fw_11 fo_11 fn_11 (by decide) fl_11_26 rfl rfl (by simp [ce_slot, upd, nI]) rfl rfl hdg kk
theorem fl_11_53 : Cond.fieldLink cn_11 53 (ft_11 7).1 (ft_11 7).2.1 (ft_11 7).2.2.1 ∈ ce_cm := ce_cm_of (List.mem_of_getElem? (i := 444) (by decide +kernel)) (by decide +kernel)
theorem gf_11_53 (C : ce_Cx p s m args c meth cc nL ret cn_11 D ad cA B0 (ce_St aK aV B0)) (hH : ce_H D ad cA B0 X s h H locs) (hdg : decode cc pc = .ok (.getfield 53, 3)) (kk : W p l e0 R s m args below meth c H locs cells slots Q (F0 m (pc + 3) ls (.ref (ad 40) :: rest))) : W p l e0 R s m args below meth c H locs cells slots Q (F0 m pc ls (.ref (ad 0) :: rest)) := by
  exact ce_get C hH (k := 0) (ci := 11) (j := 7) (N := 13) (sj := some (some 40)) (by decide) rfl rfl fw_11 (by decide) fl_11_53 rfl hdg kk
theorem fl_11_67 : Cond.fieldLink cn_11 67 (ft_11 9).1 (ft_11 9).2.1 (ft_11 9).2.2.1 ∈ ce_cm := ce_cm_of (List.mem_of_getElem? (i := 446) (by decide +kernel)) (by decide +kernel)
theorem gf_11_67 (C : ce_Cx p s m args c meth cc nL ret cn_11 D ad cA B0 (ce_St aK aV B0)) (hH : ce_H D ad cA B0 X s h H locs) (hdg : decode cc pc = .ok (.getfield 67, 3)) (kk : W p l e0 R s m args below meth c H locs cells slots Q (F0 m (pc + 3) ls (.ref (ad 48) :: rest))) : W p l e0 R s m args below meth c H locs cells slots Q (F0 m pc ls (.ref (ad 0) :: rest)) := by
  exact ce_get C hH (k := 0) (ci := 11) (j := 9) (N := 13) (sj := some (some 48)) (by decide) rfl rfl fw_11 (by decide) fl_11_67 rfl hdg kk
theorem fl_11_77 : Cond.fieldLink cn_11 77 (ft_11 11).1 (ft_11 11).2.1 (ft_11 11).2.2.1 ∈ ce_cm := ce_cm_of (List.mem_of_getElem? (i := 448) (by decide +kernel)) (by decide +kernel)
theorem gf_11_77 (C : ce_Cx p s m args c meth cc nL ret cn_11 D ad cA B0 (ce_St aK aV B0)) (hH : ce_H D ad cA B0 X s h H locs) (hdg : decode cc pc = .ok (.getfield 77, 3)) (kk : W p l e0 R s m args below meth c H locs cells slots Q (F0 m (pc + 3) ls (.ref (ad 62) :: rest))) : W p l e0 R s m args below meth c H locs cells slots Q (F0 m pc ls (.ref (ad 0) :: rest)) := by
  exact ce_get C hH (k := 0) (ci := 11) (j := 11) (N := 13) (sj := some (some 62)) (by decide) rfl rfl fw_11 (by decide) fl_11_77 rfl hdg kk
theorem mc4_handOn : Cond.code y4_handOn b4_handOn 5 none ∈ ce_cm := ce_cm_of (List.mem_of_getElem? (i := 768) (by decide +kernel)) (by decide +kernel)
theorem ml_11_327 : Cond.methodLink cn_11 327 y4_handOn ∈ ce_cm := ce_cm_of (List.mem_of_getElem? (i := 765) (by decide +kernel)) (by decide +kernel)
theorem mi4_handOn : Cond.instanceMethod y4_handOn ∈ ce_cm := ce_cm_of (List.mem_of_getElem? (i := 766) (by decide +kernel)) (by decide +kernel)
theorem ms4_handOn : Cond.selects cn_4 y4_handOn y4_handOn ∈ ce_cm := ce_cm_of (List.mem_of_getElem? (i := 767) (by decide +kernel)) (by decide +kernel)
theorem mc3_hold : Cond.code y3_hold b3_hold 7 none ∈ ce_cm := ce_cm_of (List.mem_of_getElem? (i := 725) (by decide +kernel)) (by decide +kernel)
theorem ml_11_281 : Cond.methodLink cn_11 281 y3_hold ∈ ce_cm := ce_cm_of (List.mem_of_getElem? (i := 722) (by decide +kernel)) (by decide +kernel)
theorem mi3_hold : Cond.instanceMethod y3_hold ∈ ce_cm := ce_cm_of (List.mem_of_getElem? (i := 723) (by decide +kernel)) (by decide +kernel)
theorem ms3_hold : Cond.selects cn_3 y3_hold y3_hold ∈ ce_cm := ce_cm_of (List.mem_of_getElem? (i := 724) (by decide +kernel)) (by decide +kernel)
theorem mc2_mark : Cond.code y2_mark b2_mark 4 none ∈ ce_cm := ce_cm_of (List.mem_of_getElem? (i := 696) (by decide +kernel)) (by decide +kernel)
theorem ml_11_323 : Cond.methodLink cn_11 323 y2_mark ∈ ce_cm := ce_cm_of (List.mem_of_getElem? (i := 693) (by decide +kernel)) (by decide +kernel)
theorem mi2_mark : Cond.instanceMethod y2_mark ∈ ce_cm := ce_cm_of (List.mem_of_getElem? (i := 694) (by decide +kernel)) (by decide +kernel)
theorem ms2_mark : Cond.selects cn_2 y2_mark y2_mark ∈ ce_cm := ce_cm_of (List.mem_of_getElem? (i := 695) (by decide +kernel)) (by decide +kernel)
def f11_refresh (F : Nat)  (h : Hp) : Option (Hp) :=
  ce_nm ((h 0 2).toNatClampNeg) (fun k_5 => if ce_isNet k_5 then
    Option.bind (f2_mark F k_5 h) (fun o12 =>
      ce_nm ((o12 0 2).toNatClampNeg) (fun k_20 => if ce_isNet k_20 then
        Option.bind (f3_hold F 48 k_20 (-1 : Int32) o12) (fun o24 =>
          ce_nm ((o24 0 2).toNatClampNeg) (fun k_32 => if ce_isNet k_32 then
            Option.bind (f4_handOn F k_32 48 o24) (fun o43 =>
              some o43)
          else none))
      else none))
  else none)
set_option maxRecDepth 20000 in
theorem c11_refresh (l : Launch) (D : va_G) (ad : Nat → Nat) (cA : Nat → ClassId) (aK aV : Nat → Nat) (B0 : Nat) (hA : ce_Ad ad B0) (F : Nat)   (h : Hp) (r : Hp) (e : f11_refresh F  h = some r) : ce_Ct l D ad cA B0 (ce_St aK aV B0) y11_refresh b11_refresh 1 none 5 121 0 0 [.ref (ad 0)] h none r := by
  refine ce_enter hA (by decide) rfl (Nat.le_of_ble_eq_true rfl) (fun p e0 s m below meth c ls C hH hl => ?_)
  have hl : lv_has ls 1 [(0, .ref (ad 0))] := hl
  have hx := C.1
  have hb := C.2.1
  have e : Option.bind _ some = some r := (congrArg (fun z => Option.bind z some) e).trans rfl
  unfold f11_refresh at e
  refine lv_aload_n hx hb d11_refresh_0 rfl (lv_at hl 0 rfl) ?_
  refine gf_11_60 C hH d11_refresh_1 ?_
  refine lv_aload_n hx hb d11_refresh_4 rfl (lv_at hl 0 rfl) ?_
  refine gf_11_26 C hH d11_refresh_5 ?_
  obtain ⟨k_5, ek_5, e⟩ := ce_nmE e
  obtain ⟨hk_5, e⟩ := ce_gd e
  rw [← ek_5]
  refine lv_aload_n hx hb d11_refresh_8 rfl (lv_at hl 0 rfl) ?_
  refine gf_11_53 C hH d11_refresh_9 ?_
  obtain ⟨o12, eo12, e⟩ := ce_bd e
  refine ce_callV (As := [.ref (ad k_5), .ref (ad 40)]) (rest := []) C (ce_sok aK aV B0) hH (c2_mark l D ad cA aK aV B0 C.2.2.2.2.2.2.1 F k_5 hk_5 h o12 eo12) lo_44.1 lo_44.2.choose_spec rfl rfl mc2_mark ml_11_323 mi2_mark ms2_mark mI_2 (n := 2) (by decide) rfl ⟨Nat.le_of_ble_eq_true rfl, Nat.le_of_ble_eq_true rfl⟩ ⟨Nat.le_of_ble_eq_true rfl, Nat.le_of_ble_eq_true rfl⟩ hl.1 rfl (Nat.le_of_ble_eq_true rfl) d11_refresh_12 (fun H locs hH => ?_)
  refine W.eq (g2 := F0 m 15 ls []) rfl ?_
  refine lv_aload_n hx hb d11_refresh_15 rfl (lv_at hl 0 rfl) ?_
  refine gf_11_67 C hH d11_refresh_16 ?_
  refine lv_aload_n hx hb d11_refresh_19 rfl (lv_at hl 0 rfl) ?_
  refine gf_11_26 C hH d11_refresh_20 ?_
  obtain ⟨k_20, ek_20, e⟩ := ce_nmE e
  obtain ⟨hk_20, e⟩ := ce_gd e
  rw [← ek_20]
  refine lv_iconst (v := (-1 : Int32)) hx hb d11_refresh_23 (by decide) ?_
  obtain ⟨o24, eo24, e⟩ := ce_bd e
  refine ce_callV (As := [.ref (ad k_20), .int (-1 : Int32)]) (rest := []) C (ce_sok aK aV B0) hH (c3_hold l D ad cA aK aV B0 C.2.2.2.2.2.2.1 F 48 k_20 (-1 : Int32) (Or.inl rfl) hk_20 o12 o24 eo24) (lk_El (Or.inl rfl)).1 (lk_El (Or.inl rfl)).2.choose_spec rfl rfl mc3_hold ml_11_281 mi3_hold ms3_hold mI_3 (n := 2) (by decide) rfl ⟨Nat.le_of_ble_eq_true rfl, Nat.le_of_ble_eq_true rfl⟩ ⟨Nat.le_of_ble_eq_true rfl, Nat.le_of_ble_eq_true rfl⟩ hl.1 rfl (Nat.le_of_ble_eq_true rfl) d11_refresh_24 (fun H locs hH => ?_)
  refine W.eq (g2 := F0 m 27 ls []) rfl ?_
  refine lv_aload_n hx hb d11_refresh_27 rfl (lv_at hl 0 rfl) ?_
  refine gf_11_77 C hH d11_refresh_28 ?_
  refine lv_aload_n hx hb d11_refresh_31 rfl (lv_at hl 0 rfl) ?_
  refine gf_11_26 C hH d11_refresh_32 ?_
  obtain ⟨k_32, ek_32, e⟩ := ce_nmE e
  obtain ⟨hk_32, e⟩ := ce_gd e
  rw [← ek_32]
  refine lv_aload_n hx hb d11_refresh_35 rfl (lv_at hl 0 rfl) ?_
  refine gf_11_67 C hH d11_refresh_36 ?_
  refine lv_aload_n hx hb d11_refresh_39 rfl (lv_at hl 0 rfl) ?_
  refine gf_11_60 C hH d11_refresh_40 ?_
  obtain ⟨o43, eo43, e⟩ := ce_bd e
  refine ce_callV (As := [.ref (ad k_32), .ref (ad 48), .ref (ad 44)]) (rest := []) C (ce_sok aK aV B0) hH (c4_handOn l D ad cA aK aV B0 C.2.2.2.2.2.2.1 F k_32 48 hk_32 (Or.inl rfl) o24 o43 eo43) lo_62.1 lo_62.2.choose_spec rfl rfl mc4_handOn ml_11_327 mi4_handOn ms4_handOn mI_4 (n := 3) (by decide) rfl ⟨Nat.le_of_ble_eq_true rfl, Nat.le_of_ble_eq_true rfl⟩ ⟨Nat.le_of_ble_eq_true rfl, Nat.le_of_ble_eq_true rfl⟩ hl.1 rfl (Nat.le_of_ble_eq_true rfl) d11_refresh_43 (fun H locs hH => ?_)
  refine W.eq (g2 := F0 m 46 ls []) rfl ?_
  exact ce_vret C (ce_sok aK aV B0) hH (Option.some.inj e) d11_refresh_46
abbrev b11_net : ByteArray := prog_1_method_4_code
def y11_net : MethodName := ⟨cn_11, "net", "()I"⟩
theorem d11_net_0 : decode b11_net 0 = .ok (.aload_n 0, 1) := by decide +kernel
theorem d11_net_1 : decode b11_net 1 = .ok (.getfield 19, 3) := by decide +kernel
theorem d11_net_4 : decode b11_net 4 = .ok (.aload_n 0, 1) := by decide +kernel
theorem d11_net_5 : decode b11_net 5 = .ok (.getfield 10, 3) := by decide +kernel
theorem d11_net_8 : decode b11_net 8 = .ok (.aload_n 0, 1) := by decide +kernel
theorem d11_net_9 : decode b11_net 9 = .ok (.getfield 30, 3) := by decide +kernel
theorem d11_net_12 : decode b11_net 12 = .ok (.invokevirtual 102, 3) := by decide +kernel
theorem d11_net_15 : decode b11_net 15 = .ok (.aload_n 0, 1) := by decide +kernel
theorem d11_net_16 : decode b11_net 16 = .ok (.getfield 10, 3) := by decide +kernel
theorem d11_net_19 : decode b11_net 19 = .ok (.getfield 88, 3) := by decide +kernel
theorem d11_net_22 : decode b11_net 22 = .ok (.iconst 0, 1) := by decide +kernel
theorem d11_net_23 : decode b11_net 23 = .ok (.putfield 92, 3) := by decide +kernel
theorem d11_net_26 : decode b11_net 26 = .ok (.aload_n 0, 1) := by decide +kernel
theorem d11_net_27 : decode b11_net 27 = .ok (.getfield 10, 3) := by decide +kernel
theorem d11_net_30 : decode b11_net 30 = .ok (.invokevirtual 106, 3) := by decide +kernel
theorem d11_net_33 : decode b11_net 33 = .ok (.ifCond .ne 6, 3) := by decide +kernel
theorem d11_net_36 : decode b11_net 36 = .ok (.bipush (-4), 2) := by decide +kernel
theorem d11_net_38 : decode b11_net 38 = .ok (.ireturn, 1) := by decide +kernel
theorem d11_net_39 : decode b11_net 39 = .ok (.aload_n 0, 1) := by decide +kernel
theorem d11_net_40 : decode b11_net 40 = .ok (.getfield 26, 3) := by decide +kernel
theorem d11_net_43 : decode b11_net 43 = .ok (.astore_n 1, 1) := by decide +kernel
theorem d11_net_44 : decode b11_net 44 = .ok (.aload_n 0, 1) := by decide +kernel
theorem d11_net_45 : decode b11_net 45 = .ok (.aload_n 0, 1) := by decide +kernel
theorem d11_net_46 : decode b11_net 46 = .ok (.getfield 30, 3) := by decide +kernel
theorem d11_net_49 : decode b11_net 49 = .ok (.putfield 26, 3) := by decide +kernel
theorem d11_net_52 : decode b11_net 52 = .ok (.aload_n 0, 1) := by decide +kernel
theorem d11_net_53 : decode b11_net 53 = .ok (.aload_n 1, 1) := by decide +kernel
theorem d11_net_54 : decode b11_net 54 = .ok (.putfield 30, 3) := by decide +kernel
theorem d11_net_57 : decode b11_net 57 = .ok (.aload_n 0, 1) := by decide +kernel
theorem d11_net_58 : decode b11_net 58 = .ok (.getfield 46, 3) := by decide +kernel
theorem d11_net_61 : decode b11_net 61 = .ok (.iconst 0, 1) := by decide +kernel
theorem d11_net_62 : decode b11_net 62 = .ok (.putfield 110, 3) := by decide +kernel
theorem d11_net_65 : decode b11_net 65 = .ok (.aload_n 0, 1) := by decide +kernel
theorem d11_net_66 : decode b11_net 66 = .ok (.invokevirtual 113, 3) := by decide +kernel
theorem d11_net_69 : decode b11_net 69 = .ok (.aload_n 0, 1) := by decide +kernel
theorem d11_net_70 : decode b11_net 70 = .ok (.getfield 26, 3) := by decide +kernel
theorem d11_net_73 : decode b11_net 73 = .ok (.getfield 116, 3) := by decide +kernel
theorem d11_net_76 : decode b11_net 76 = .ok (.ireturn, 1) := by decide +kernel
theorem fl_11_19 : Cond.fieldLink cn_11 19 (ft_11 1).1 (ft_11 1).2.1 (ft_11 1).2.2.1 ∈ ce_cm := ce_cm_of (List.mem_of_getElem? (i := 438) (by decide +kernel)) (by decide +kernel)
theorem gf_11_19 (C : ce_Cx p s m args c meth cc nL ret cn_11 D ad cA B0 (ce_St aK aV B0)) (hH : ce_H D ad cA B0 X s h H locs) (hdg : decode cc pc = .ok (.getfield 19, 3)) (kk : W p l e0 R s m args below meth c H locs cells slots Q (F0 m (pc + 3) ls (.ref (ad 4) :: rest))) : W p l e0 R s m args below meth c H locs cells slots Q (F0 m pc ls (.ref (ad 0) :: rest)) := by
  exact ce_get C hH (k := 0) (ci := 11) (j := 1) (N := 13) (sj := some (some 4)) (by decide) rfl rfl fw_11 (by decide) fl_11_19 rfl hdg kk
theorem fl_11_30 : Cond.fieldLink cn_11 30 (ft_11 3).1 (ft_11 3).2.1 (ft_11 3).2.2.1 ∈ ce_cm := ce_cm_of (List.mem_of_getElem? (i := 440) (by decide +kernel)) (by decide +kernel)
theorem gf_11_30 (C : ce_Cx p s m args c meth cc nL ret cn_11 D ad cA B0 (ce_St aK aV B0)) (hH : ce_H D ad cA B0 X s h H locs) (hdg : decode cc pc = .ok (.getfield 30, 3)) (kk : W p l e0 R s m args below meth c H locs cells slots Q (F0 m (pc + 3) ls (.ref (ad (h 0 3).toNatClampNeg) :: rest))) : W p l e0 R s m args below meth c H locs cells slots Q (F0 m pc ls (.ref (ad 0) :: rest)) := by
  exact ce_get C hH (k := 0) (ci := 11) (j := 3) (N := 13) (sj := some none) (by decide) rfl rfl fw_11 (by decide) fl_11_30 rfl hdg kk
theorem pf_11_30 (C : ce_Cx p s m args c meth cc nL ret cn_11 D ad cA B0 (ce_St aK aV B0)) (hH : ce_H D ad cA B0 X s h H locs) {k : Nat} (hk : ce_isNet k) (hdg : decode cc pc = .ok (.putfield 30, 3)) (kk : ∀ (H1 : Heap) (locs1 : List Loc), ce_H D ad cA B0 X s (hp_up h 0 3 (nI k)) H1 locs1 → W p l e0 R s m args below meth c H1 locs1 cells slots Q (F0 m (pc + 3) ls rest)) : W p l e0 R s m args below meth c H locs cells slots Q (F0 m pc ls (.ref (ad k) :: .ref (ad 0) :: rest)) := by
  rcases hk with rfl | rfl
  · exact ce_put C hH (k := 0) (ci := 11) (j := 3) (N := 13) (fy := fy_11) (sj := some none) _ (by decide) rfl rfl fw_11 fo_11 fn_11 (by decide) fl_11_30 rfl rfl (by simp [ce_slot, upd, nI]) rfl rfl hdg kk
  · exact ce_put C hH (k := 0) (ci := 11) (j := 3) (N := 13) (fy := fy_11) (sj := some none) _ (by decide) rfl rfl fw_11 fo_11 fn_11 (by decide) fl_11_30 rfl rfl (by simp [ce_slot, upd, nI]) rfl rfl hdg kk
theorem fl_11_46 : Cond.fieldLink cn_11 46 (ft_11 6).1 (ft_11 6).2.1 (ft_11 6).2.2.1 ∈ ce_cm := ce_cm_of (List.mem_of_getElem? (i := 443) (by decide +kernel)) (by decide +kernel)
theorem gf_11_46 (C : ce_Cx p s m args c meth cc nL ret cn_11 D ad cA B0 (ce_St aK aV B0)) (hH : ce_H D ad cA B0 X s h H locs) (hdg : decode cc pc = .ok (.getfield 46, 3)) (kk : W p l e0 R s m args below meth c H locs cells slots Q (F0 m (pc + 3) ls (.ref (ad 35) :: rest))) : W p l e0 R s m args below meth c H locs cells slots Q (F0 m pc ls (.ref (ad 0) :: rest)) := by
  exact ce_get C hH (k := 0) (ci := 11) (j := 6) (N := 13) (sj := some (some 35)) (by decide) rfl rfl fw_11 (by decide) fl_11_46 rfl hdg kk
theorem fl_11_110 : Cond.fieldLink cn_11 110 (ft_0 0).1 (ft_0 0).2.1 (ft_0 0).2.2.1 ∈ ce_cm := ce_cm_of (List.mem_of_getElem? (i := 309) (by decide +kernel)) (by decide +kernel)
theorem gf_11_110 (C : ce_Cx p s m args c meth cc nL ret cn_11 D ad cA B0 (ce_St aK aV B0)) (hH : ce_H D ad cA B0 X s h H locs) (hdg : decode cc pc = .ok (.getfield 110, 3)) (kk : W p l e0 R s m args below meth c H locs cells slots Q (F0 m (pc + 3) ls (.int (h 35 0) :: rest))) : W p l e0 R s m args below meth c H locs cells slots Q (F0 m pc ls (.ref (ad 35) :: rest)) := by
  exact ce_get C hH (k := 35) (ci := 0) (j := 0) (N := 5) (sj := none) (by decide) rfl rfl fw_0 (by decide) fl_11_110 rfl hdg kk
theorem pf_11_110 (C : ce_Cx p s m args c meth cc nL ret cn_11 D ad cA B0 (ce_St aK aV B0)) (hH : ce_H D ad cA B0 X s h H locs) {x : Int32} (hdg : decode cc pc = .ok (.putfield 110, 3)) (kk : ∀ (H1 : Heap) (locs1 : List Loc), ce_H D ad cA B0 X s (hp_up h 35 0 x) H1 locs1 → W p l e0 R s m args below meth c H1 locs1 cells slots Q (F0 m (pc + 3) ls rest)) : W p l e0 R s m args below meth c H locs cells slots Q (F0 m pc ls (.int x :: .ref (ad 35) :: rest)) := by
  exact ce_put C hH (k := 35) (ci := 0) (j := 0) (N := 5) (fy := fy_0) (sj := none) x (by decide) rfl rfl fw_0 fo_0 fn_0 (by decide) fl_11_110 rfl rfl (v := .int x) (by simp [ce_slot, upd]) rfl rfl hdg kk
theorem fl_11_116 : Cond.fieldLink cn_11 116 (ft_5 0).1 (ft_5 0).2.1 (ft_5 0).2.2.1 ∈ ce_cm := ce_cm_of (List.mem_of_getElem? (i := 194) (by decide +kernel)) (by decide +kernel)
theorem gf_11_116 (C : ce_Cx p s m args c meth cc nL ret cn_11 D ad cA B0 (ce_St aK aV B0)) (hH : ce_H D ad cA B0 X s h H locs) {k : Nat} (hk : ce_isNet k) (hdg : decode cc pc = .ok (.getfield 116, 3)) (kk : W p l e0 R s m args below meth c H locs cells slots Q (F0 m (pc + 3) ls (.int (h k 0) :: rest))) : W p l e0 R s m args below meth c H locs cells slots Q (F0 m pc ls (.ref (ad k) :: rest)) := by
  rcases hk with rfl | rfl
  · exact ce_get C hH (k := 7) (ci := 5) (j := 0) (N := 11) (sj := none) (by decide) rfl rfl fw_5 (by decide) fl_11_116 rfl hdg kk
  · exact ce_get C hH (k := 14) (ci := 5) (j := 0) (N := 11) (sj := none) (by decide) rfl rfl fw_5 (by decide) fl_11_116 rfl hdg kk
theorem pf_11_116 (C : ce_Cx p s m args c meth cc nL ret cn_11 D ad cA B0 (ce_St aK aV B0)) (hH : ce_H D ad cA B0 X s h H locs) {k : Nat} (hk : ce_isNet k) {x : Int32} (hdg : decode cc pc = .ok (.putfield 116, 3)) (kk : ∀ (H1 : Heap) (locs1 : List Loc), ce_H D ad cA B0 X s (hp_up h k 0 x) H1 locs1 → W p l e0 R s m args below meth c H1 locs1 cells slots Q (F0 m (pc + 3) ls rest)) : W p l e0 R s m args below meth c H locs cells slots Q (F0 m pc ls (.int x :: .ref (ad k) :: rest)) := by
  rcases hk with rfl | rfl
  · exact ce_put C hH (k := 7) (ci := 5) (j := 0) (N := 11) (fy := fy_5) (sj := none) x (by decide) rfl rfl fw_5 fo_5 fn_5 (by decide) fl_11_116 rfl rfl (v := .int x) (by simp [ce_slot, upd]) rfl rfl hdg kk
  · exact ce_put C hH (k := 14) (ci := 5) (j := 0) (N := 11) (fy := fy_5) (sj := none) x (by decide) rfl rfl fw_5 fo_5 fn_5 (by decide) fl_11_116 rfl rfl (v := .int x) (by simp [ce_slot, upd]) rfl rfl hdg kk
theorem lo_0 : 0 < 96 ∧ ∃ sl, ce_lay 0 = .inr (11, sl) := ⟨by decide, _, rfl⟩
theorem mc11_refresh : Cond.code y11_refresh b11_refresh 1 none ∈ ce_cm := ce_cm_of (List.mem_of_getElem? (i := 692) (by decide +kernel)) (by decide +kernel)
theorem ml_11_113 : Cond.methodLink cn_11 113 y11_refresh ∈ ce_cm := ce_cm_of (List.mem_of_getElem? (i := 689) (by decide +kernel)) (by decide +kernel)
theorem mi11_refresh : Cond.instanceMethod y11_refresh ∈ ce_cm := ce_cm_of (List.mem_of_getElem? (i := 691) (by decide +kernel)) (by decide +kernel)
theorem ms11_refresh : Cond.selects cn_11 y11_refresh y11_refresh ∈ ce_cm := ce_cm_of (List.mem_of_getElem? (i := 9) (by decide +kernel)) (by decide +kernel)
theorem ml_11_106 : Cond.methodLink cn_11 106 y6_isFine ∈ ce_cm := ce_cm_of (List.mem_of_getElem? (i := 688) (by decide +kernel)) (by decide +kernel)
theorem mc8_read : Cond.code y8_read b8_read 4 none ∈ ce_cm := ce_cm_of (List.mem_of_getElem? (i := 496) (by decide +kernel)) (by decide +kernel)
theorem ml_11_102 : Cond.methodLink cn_11 102 y8_read ∈ ce_cm := ce_cm_of (List.mem_of_getElem? (i := 493) (by decide +kernel)) (by decide +kernel)
theorem mi8_read : Cond.instanceMethod y8_read ∈ ce_cm := ce_cm_of (List.mem_of_getElem? (i := 494) (by decide +kernel)) (by decide +kernel)
theorem ms8_read : Cond.selects cn_8 y8_read y8_read ∈ ce_cm := ce_cm_of (List.mem_of_getElem? (i := 495) (by decide +kernel)) (by decide +kernel)
def f11_net (F : Nat)  (h : Hp) : Option (Int32 × Hp) :=
  ce_nm ((h 0 3).toNatClampNeg) (fun k_9 => if ce_isNet k_9 then
    Option.bind (f8_read F k_9 h) (fun o12 =>
      ce_nm (hp_up o12 2 1 (0 : Int32)) (fun h_23 =>
        Option.bind (f6_isFine F  h_23) (fun o30 =>
          if o30.1 = 0 then
            some ((-4 : Int32), o30.2)
          else
            ce_nm ((o30.2 0 2).toNatClampNeg) (fun k_40 => if ce_isNet k_40 then
              ce_nm ((o30.2 0 3).toNatClampNeg) (fun k_46 => if ce_isNet k_46 then
                ce_nm (hp_up o30.2 0 2 (nI k_46)) (fun h_49 =>
                  ce_nm (hp_up h_49 0 3 (nI k_40)) (fun h_54 =>
                    ce_nm (hp_up h_54 35 0 (0 : Int32)) (fun h_62 =>
                      Option.bind (f11_refresh F  h_62) (fun o66 =>
                        ce_nm ((o66 0 2).toNatClampNeg) (fun k_70 => if ce_isNet k_70 then
                          some (o66 k_70 0, o66)
                        else none)))))
              else none)
            else none))))
  else none)
set_option maxRecDepth 20000 in
theorem c11_net (l : Launch) (D : va_G) (ad : Nat → Nat) (cA : Nat → ClassId) (aK aV : Nat → Nat) (B0 : Nat) (hA : ce_Ad ad B0) (F : Nat)   (h : Hp) (r : Int32 × Hp) (e : f11_net F  h = some r) : ce_Ct l D ad cA B0 (ce_St aK aV B0) y11_net b11_net 2 (some .int) 14 332 0 0 [.ref (ad 0)] h (some (.int r.1)) r.2 := by
  refine ce_enter hA (by decide) rfl (Nat.le_of_ble_eq_true rfl) (fun p e0 s m below meth c ls C hH hl => ?_)
  have hl : lv_has ls 2 [(0, .ref (ad 0))] := hl
  have hx := C.1
  have hb := C.2.1
  have e : Option.bind _ some = some r := (congrArg (fun z => Option.bind z some) e).trans rfl
  unfold f11_net at e
  refine lv_aload_n hx hb d11_net_0 rfl (lv_at hl 0 rfl) ?_
  refine gf_11_19 C hH d11_net_1 ?_
  refine lv_aload_n hx hb d11_net_4 rfl (lv_at hl 0 rfl) ?_
  refine gf_11_10 C hH d11_net_5 ?_
  refine lv_aload_n hx hb d11_net_8 rfl (lv_at hl 0 rfl) ?_
  refine gf_11_30 C hH d11_net_9 ?_
  obtain ⟨k_9, ek_9, e⟩ := ce_nmE e
  obtain ⟨hk_9, e⟩ := ce_gd e
  rw [← ek_9]
  obtain ⟨o12, eo12, e⟩ := ce_bd e
  refine ce_callV (As := [.ref (ad 1), .ref (ad k_9)]) (rest := []) C (ce_sok aK aV B0) hH (c8_read l D ad cA aK aV B0 C.2.2.2.2.2.2.1 F k_9 hk_9 h o12 eo12) lo_4.1 lo_4.2.choose_spec rfl rfl mc8_read ml_11_102 mi8_read ms8_read mI_8 (n := 2) (by decide) rfl ⟨Nat.le_of_ble_eq_true rfl, Nat.le_of_ble_eq_true rfl⟩ ⟨Nat.le_of_ble_eq_true rfl, Nat.le_of_ble_eq_true rfl⟩ hl.1 rfl (Nat.le_of_ble_eq_true rfl) d11_net_12 (fun H locs hH => ?_)
  refine W.eq (g2 := F0 m 15 ls []) rfl ?_
  refine lv_aload_n hx hb d11_net_15 rfl (lv_at hl 0 rfl) ?_
  refine gf_11_10 C hH d11_net_16 ?_
  refine gf_11_88 C hH d11_net_19 ?_
  refine lv_iconst (v := (0 : Int32)) hx hb d11_net_22 (by decide) ?_
  refine pf_11_92 C hH d11_net_23 (fun H locs hH => ?_)
  obtain ⟨h_23, eh_23, e⟩ := ce_nmE e
  rw [← eh_23] at hH
  refine lv_aload_n hx hb d11_net_26 rfl (lv_at hl 0 rfl) ?_
  refine gf_11_10 C hH d11_net_27 ?_
  obtain ⟨o30, eo30, e⟩ := ce_bd e
  refine ce_callV (As := []) (rest := []) C (ce_sok aK aV B0) hH (c6_isFine l D ad cA aK aV B0 C.2.2.2.2.2.2.1 F   h_23 o30 eo30) lo_1.1 lo_1.2.choose_spec rfl rfl mc6_isFine ml_11_106 mi6_isFine ms6_isFine mI_6 (n := 0) (by decide) rfl ⟨Nat.le_of_ble_eq_true rfl, Nat.le_of_ble_eq_true rfl⟩ ⟨Nat.le_of_ble_eq_true rfl, Nat.le_of_ble_eq_true rfl⟩ hl.1 rfl (Nat.le_of_ble_eq_true rfl) d11_net_30 (fun H locs hH => ?_)
  refine W.eq (g2 := F0 m 33 ls [.int o30.1]) rfl ?_
  refine lv_if_ne (tgt := 39) hx hb d11_net_33 (by decide) (fun hc33 => ?_) (fun hc33 => ?_)
  · have e := ce_if0 e hc33
    refine lv_aload_n hx hb d11_net_39 rfl (lv_at hl 0 rfl) ?_
    refine gf_11_26 C hH d11_net_40 ?_
    obtain ⟨k_40, ek_40, e⟩ := ce_nmE e
    obtain ⟨hk_40, e⟩ := ce_gd e
    rw [← ek_40]
    refine lv_astore_n (lv' := [(1, .ref (ad k_40)), (0, .ref (ad 0))]) hx hb d11_net_43 rfl hl (by decide) rfl (fun ls hl => ?_)
    refine lv_aload_n hx hb d11_net_44 rfl (lv_at hl 1 rfl) ?_
    refine lv_aload_n hx hb d11_net_45 rfl (lv_at hl 1 rfl) ?_
    refine gf_11_30 C hH d11_net_46 ?_
    obtain ⟨k_46, ek_46, e⟩ := ce_nmE e
    obtain ⟨hk_46, e⟩ := ce_gd e
    rw [← ek_46]
    refine pf_11_26 C hH hk_46 d11_net_49 (fun H locs hH => ?_)
    obtain ⟨h_49, eh_49, e⟩ := ce_nmE e
    rw [← eh_49] at hH
    refine lv_aload_n hx hb d11_net_52 rfl (lv_at hl 1 rfl) ?_
    refine lv_aload_n hx hb d11_net_53 rfl (lv_at hl 0 rfl) ?_
    refine pf_11_30 C hH hk_40 d11_net_54 (fun H locs hH => ?_)
    obtain ⟨h_54, eh_54, e⟩ := ce_nmE e
    rw [← eh_54] at hH
    refine lv_aload_n hx hb d11_net_57 rfl (lv_at hl 1 rfl) ?_
    refine gf_11_46 C hH d11_net_58 ?_
    refine lv_iconst (v := (0 : Int32)) hx hb d11_net_61 (by decide) ?_
    refine pf_11_110 C hH d11_net_62 (fun H locs hH => ?_)
    obtain ⟨h_62, eh_62, e⟩ := ce_nmE e
    rw [← eh_62] at hH
    refine lv_aload_n hx hb d11_net_65 rfl (lv_at hl 1 rfl) ?_
    obtain ⟨o66, eo66, e⟩ := ce_bd e
    refine ce_callV (As := []) (rest := []) C (ce_sok aK aV B0) hH (c11_refresh l D ad cA aK aV B0 C.2.2.2.2.2.2.1 F   h_62 o66 eo66) lo_0.1 lo_0.2.choose_spec rfl rfl mc11_refresh ml_11_113 mi11_refresh ms11_refresh mI_11 (n := 0) (by decide) rfl ⟨Nat.le_of_ble_eq_true rfl, Nat.le_of_ble_eq_true rfl⟩ ⟨Nat.le_of_ble_eq_true rfl, Nat.le_of_ble_eq_true rfl⟩ hl.1 rfl (Nat.le_of_ble_eq_true rfl) d11_net_66 (fun H locs hH => ?_)
    refine W.eq (g2 := F0 m 69 ls []) rfl ?_
    refine lv_aload_n hx hb d11_net_69 rfl (lv_at hl 1 rfl) ?_
    refine gf_11_26 C hH d11_net_70 ?_
    obtain ⟨k_70, ek_70, e⟩ := ce_nmE e
    obtain ⟨hk_70, e⟩ := ce_gd e
    rw [← ek_70]
    refine gf_11_116 C hH hk_70 d11_net_73 ?_
    exact ce_iretE C (ce_sok aK aV B0) hH e d11_net_76
  · have e := ce_if1 e hc33
    refine lv_bipush (v := (-4 : Int32)) hx hb d11_net_36 (by decide) ?_
    exact ce_iretE C (ce_sok aK aV B0) hH e d11_net_38
abbrev b11_fault : ByteArray := prog_1_method_5_code
def y11_fault : MethodName := ⟨cn_11, "fault", "(I)I"⟩
theorem d11_fault_0 : decode b11_fault 0 = .ok (.iload_n 1, 1) := by decide +kernel
theorem d11_fault_1 : decode b11_fault 1 = .ok (.ifCond .ne 11, 3) := by decide +kernel
theorem d11_fault_4 : decode b11_fault 4 = .ok (.aload_n 0, 1) := by decide +kernel
theorem d11_fault_5 : decode b11_fault 5 = .ok (.getfield 10, 3) := by decide +kernel
theorem d11_fault_8 : decode b11_fault 8 = .ok (.getfield 119, 3) := by decide +kernel
theorem d11_fault_11 : decode b11_fault 11 = .ok (.ireturn, 1) := by decide +kernel
theorem d11_fault_12 : decode b11_fault 12 = .ok (.iload_n 1, 1) := by decide +kernel
theorem d11_fault_13 : decode b11_fault 13 = .ok (.iconst 1, 1) := by decide +kernel
theorem d11_fault_14 : decode b11_fault 14 = .ok (.if_icmp .ne 13, 3) := by decide +kernel
theorem d11_fault_17 : decode b11_fault 17 = .ok (.aload_n 0, 1) := by decide +kernel
theorem d11_fault_18 : decode b11_fault 18 = .ok (.getfield 10, 3) := by decide +kernel
theorem d11_fault_21 : decode b11_fault 21 = .ok (.getfield 122, 3) := by decide +kernel
theorem d11_fault_24 : decode b11_fault 24 = .ok (.goto 4, 3) := by decide +kernel
theorem d11_fault_27 : decode b11_fault 27 = .ok (.iconst (-1), 1) := by decide +kernel
theorem d11_fault_28 : decode b11_fault 28 = .ok (.ireturn, 1) := by decide +kernel
theorem fl_11_122 : Cond.fieldLink cn_11 122 (ft_6 5).1 (ft_6 5).2.1 (ft_6 5).2.2.1 ∈ ce_cm := ce_cm_of (List.mem_of_getElem? (i := 155) (by decide +kernel)) (by decide +kernel)
theorem gf_11_122 (C : ce_Cx p s m args c meth cc nL ret cn_11 D ad cA B0 (ce_St aK aV B0)) (hH : ce_H D ad cA B0 X s h H locs) (hdg : decode cc pc = .ok (.getfield 122, 3)) (kk : W p l e0 R s m args below meth c H locs cells slots Q (F0 m (pc + 3) ls (.int (h 1 5) :: rest))) : W p l e0 R s m args below meth c H locs cells slots Q (F0 m pc ls (.ref (ad 1) :: rest)) := by
  exact ce_get C hH (k := 1) (ci := 6) (j := 5) (N := 6) (sj := none) (by decide) rfl rfl fw_6 (by decide) fl_11_122 rfl hdg kk
theorem pf_11_122 (C : ce_Cx p s m args c meth cc nL ret cn_11 D ad cA B0 (ce_St aK aV B0)) (hH : ce_H D ad cA B0 X s h H locs) {x : Int32} (hdg : decode cc pc = .ok (.putfield 122, 3)) (kk : ∀ (H1 : Heap) (locs1 : List Loc), ce_H D ad cA B0 X s (hp_up h 1 5 x) H1 locs1 → W p l e0 R s m args below meth c H1 locs1 cells slots Q (F0 m (pc + 3) ls rest)) : W p l e0 R s m args below meth c H locs cells slots Q (F0 m pc ls (.int x :: .ref (ad 1) :: rest)) := by
  exact ce_put C hH (k := 1) (ci := 6) (j := 5) (N := 6) (fy := fy_6) (sj := none) x (by decide) rfl rfl fw_6 fo_6 fn_6 (by decide) fl_11_122 rfl rfl (v := .int x) (by simp [ce_slot, upd]) rfl rfl hdg kk
theorem fl_11_119 : Cond.fieldLink cn_11 119 (ft_6 4).1 (ft_6 4).2.1 (ft_6 4).2.2.1 ∈ ce_cm := ce_cm_of (List.mem_of_getElem? (i := 153) (by decide +kernel)) (by decide +kernel)
theorem gf_11_119 (C : ce_Cx p s m args c meth cc nL ret cn_11 D ad cA B0 (ce_St aK aV B0)) (hH : ce_H D ad cA B0 X s h H locs) (hdg : decode cc pc = .ok (.getfield 119, 3)) (kk : W p l e0 R s m args below meth c H locs cells slots Q (F0 m (pc + 3) ls (.int (h 1 4) :: rest))) : W p l e0 R s m args below meth c H locs cells slots Q (F0 m pc ls (.ref (ad 1) :: rest)) := by
  exact ce_get C hH (k := 1) (ci := 6) (j := 4) (N := 6) (sj := none) (by decide) rfl rfl fw_6 (by decide) fl_11_119 rfl hdg kk
theorem pf_11_119 (C : ce_Cx p s m args c meth cc nL ret cn_11 D ad cA B0 (ce_St aK aV B0)) (hH : ce_H D ad cA B0 X s h H locs) {x : Int32} (hdg : decode cc pc = .ok (.putfield 119, 3)) (kk : ∀ (H1 : Heap) (locs1 : List Loc), ce_H D ad cA B0 X s (hp_up h 1 4 x) H1 locs1 → W p l e0 R s m args below meth c H1 locs1 cells slots Q (F0 m (pc + 3) ls rest)) : W p l e0 R s m args below meth c H locs cells slots Q (F0 m pc ls (.int x :: .ref (ad 1) :: rest)) := by
  exact ce_put C hH (k := 1) (ci := 6) (j := 4) (N := 6) (fy := fy_6) (sj := none) x (by decide) rfl rfl fw_6 fo_6 fn_6 (by decide) fl_11_119 rfl rfl (v := .int x) (by simp [ce_slot, upd]) rfl rfl hdg kk
def f11_fault (F : Nat) (x1 : Int32) (h : Hp) : Option (Int32 × Hp) :=
  if x1 = 0 then
    some (h 1 4, h)
  else
    if x1 = (1 : Int32) then
      some (h 1 5, h)
    else
      some ((-1 : Int32), h)
set_option maxRecDepth 20000 in
theorem c11_fault (l : Launch) (D : va_G) (ad : Nat → Nat) (cA : Nat → ClassId) (aK aV : Nat → Nat) (B0 : Nat) (hA : ce_Ad ad B0) (F : Nat) (x1 : Int32)  (h : Hp) (r : Int32 × Hp) (e : f11_fault F x1 h = some r) : ce_Ct l D ad cA B0 (ce_St aK aV B0) y11_fault b11_fault 2 (some .int) 0 0 0 0 [.ref (ad 0), .int x1] h (some (.int r.1)) r.2 := by
  refine ce_enter hA (by decide) rfl (Nat.le_of_ble_eq_true rfl) (fun p e0 s m below meth c ls C hH hl => ?_)
  have hl : lv_has ls 2 [(0, .ref (ad 0)), (1, .int x1)] := hl
  have hx := C.1
  have hb := C.2.1
  have e : Option.bind _ some = some r := (congrArg (fun z => Option.bind z some) e).trans rfl
  unfold f11_fault at e
  refine lv_iload_n hx hb d11_fault_0 rfl (lv_at hl 1 rfl) ?_
  refine lv_if_ne (tgt := 12) hx hb d11_fault_1 (by decide) (fun hc1 => ?_) (fun hc1 => ?_)
  · have e := ce_if0 e hc1
    refine lv_iload_n hx hb d11_fault_12 rfl (lv_at hl 1 rfl) ?_
    refine lv_iconst (v := (1 : Int32)) hx hb d11_fault_13 (by decide) ?_
    refine lv_icmp_ne (tgt := 27) hx hb d11_fault_14 (by decide) (fun hc14 => ?_) (fun hc14 => ?_)
    · have e := ce_if0 e hc14
      refine lv_iconst (v := (-1 : Int32)) hx hb d11_fault_27 (by decide) ?_
      exact ce_iretE C (ce_sok aK aV B0) hH e d11_fault_28
    · have e := ce_if1 e hc14
      refine lv_aload_n hx hb d11_fault_17 rfl (lv_at hl 0 rfl) ?_
      refine gf_11_10 C hH d11_fault_18 ?_
      refine gf_11_122 C hH d11_fault_21 ?_
      refine lv_goto (tgt := 28) hx hb d11_fault_24 (by decide) ?_
      exact ce_iretE C (ce_sok aK aV B0) hH e d11_fault_28
  · have e := ce_if1 e hc1
    refine lv_aload_n hx hb d11_fault_4 rfl (lv_at hl 0 rfl) ?_
    refine gf_11_10 C hH d11_fault_5 ?_
    refine gf_11_119 C hH d11_fault_8 ?_
    exact ce_iretE C (ce_sok aK aV B0) hH e d11_fault_11
abbrev b11_count : ByteArray := prog_1_method_6_code
def y11_count : MethodName := ⟨cn_11, "count", "(I)I"⟩
theorem d11_count_0 : decode b11_count 0 = .ok (.iload_n 1, 1) := by decide +kernel
theorem d11_count_1 : decode b11_count 1 = .ok (.tableswitch 126 0 8 #[51, 59, 67, 75, 83, 91, 99, 110, 118], 51) := by decide +kernel
theorem d11_count_52 : decode b11_count 52 = .ok (.aload_n 0, 1) := by decide +kernel
theorem d11_count_53 : decode b11_count 53 = .ok (.getfield 26, 3) := by decide +kernel
theorem d11_count_56 : decode b11_count 56 = .ok (.getfield 125, 3) := by decide +kernel
theorem d11_count_59 : decode b11_count 59 = .ok (.ireturn, 1) := by decide +kernel
theorem d11_count_60 : decode b11_count 60 = .ok (.aload_n 0, 1) := by decide +kernel
theorem d11_count_61 : decode b11_count 61 = .ok (.getfield 26, 3) := by decide +kernel
theorem d11_count_64 : decode b11_count 64 = .ok (.getfield 128, 3) := by decide +kernel
theorem d11_count_67 : decode b11_count 67 = .ok (.ireturn, 1) := by decide +kernel
theorem d11_count_68 : decode b11_count 68 = .ok (.aload_n 0, 1) := by decide +kernel
theorem d11_count_69 : decode b11_count 69 = .ok (.getfield 26, 3) := by decide +kernel
theorem d11_count_72 : decode b11_count 72 = .ok (.getfield 131, 3) := by decide +kernel
theorem d11_count_75 : decode b11_count 75 = .ok (.ireturn, 1) := by decide +kernel
theorem d11_count_76 : decode b11_count 76 = .ok (.aload_n 0, 1) := by decide +kernel
theorem d11_count_77 : decode b11_count 77 = .ok (.getfield 26, 3) := by decide +kernel
theorem d11_count_80 : decode b11_count 80 = .ok (.getfield 134, 3) := by decide +kernel
theorem d11_count_83 : decode b11_count 83 = .ok (.ireturn, 1) := by decide +kernel
theorem d11_count_84 : decode b11_count 84 = .ok (.aload_n 0, 1) := by decide +kernel
theorem d11_count_85 : decode b11_count 85 = .ok (.getfield 46, 3) := by decide +kernel
theorem d11_count_88 : decode b11_count 88 = .ok (.getfield 110, 3) := by decide +kernel
theorem d11_count_91 : decode b11_count 91 = .ok (.ireturn, 1) := by decide +kernel
theorem d11_count_92 : decode b11_count 92 = .ok (.aload_n 0, 1) := by decide +kernel
theorem d11_count_93 : decode b11_count 93 = .ok (.getfield 26, 3) := by decide +kernel
theorem d11_count_96 : decode b11_count 96 = .ok (.getfield 116, 3) := by decide +kernel
theorem d11_count_99 : decode b11_count 99 = .ok (.ireturn, 1) := by decide +kernel
theorem d11_count_100 : decode b11_count 100 = .ok (.aload_n 0, 1) := by decide +kernel
theorem d11_count_101 : decode b11_count 101 = .ok (.getfield 10, 3) := by decide +kernel
theorem d11_count_104 : decode b11_count 104 = .ok (.getfield 88, 3) := by decide +kernel
theorem d11_count_107 : decode b11_count 107 = .ok (.getfield 92, 3) := by decide +kernel
theorem d11_count_110 : decode b11_count 110 = .ok (.ireturn, 1) := by decide +kernel
theorem d11_count_111 : decode b11_count 111 = .ok (.aload_n 0, 1) := by decide +kernel
theorem d11_count_112 : decode b11_count 112 = .ok (.getfield 60, 3) := by decide +kernel
theorem d11_count_115 : decode b11_count 115 = .ok (.getfield 137, 3) := by decide +kernel
theorem d11_count_118 : decode b11_count 118 = .ok (.ireturn, 1) := by decide +kernel
theorem d11_count_119 : decode b11_count 119 = .ok (.aload_n 0, 1) := by decide +kernel
theorem d11_count_120 : decode b11_count 120 = .ok (.getfield 60, 3) := by decide +kernel
theorem d11_count_123 : decode b11_count 123 = .ok (.getfield 140, 3) := by decide +kernel
theorem d11_count_126 : decode b11_count 126 = .ok (.ireturn, 1) := by decide +kernel
theorem d11_count_127 : decode b11_count 127 = .ok (.iconst (-1), 1) := by decide +kernel
theorem d11_count_128 : decode b11_count 128 = .ok (.ireturn, 1) := by decide +kernel
theorem fl_11_140 : Cond.fieldLink cn_11 140 (ft_2 1).1 (ft_2 1).2.1 (ft_2 1).2.2.1 ∈ ce_cm := ce_cm_of (List.mem_of_getElem? (i := 358) (by decide +kernel)) (by decide +kernel)
theorem gf_11_140 (C : ce_Cx p s m args c meth cc nL ret cn_11 D ad cA B0 (ce_St aK aV B0)) (hH : ce_H D ad cA B0 X s h H locs) (hdg : decode cc pc = .ok (.getfield 140, 3)) (kk : W p l e0 R s m args below meth c H locs cells slots Q (F0 m (pc + 3) ls (.int (h 44 1) :: rest))) : W p l e0 R s m args below meth c H locs cells slots Q (F0 m pc ls (.ref (ad 44) :: rest)) := by
  exact ce_get C hH (k := 44) (ci := 2) (j := 1) (N := 5) (sj := none) (by decide) rfl rfl fw_2 (by decide) fl_11_140 rfl hdg kk
theorem pf_11_140 (C : ce_Cx p s m args c meth cc nL ret cn_11 D ad cA B0 (ce_St aK aV B0)) (hH : ce_H D ad cA B0 X s h H locs) {x : Int32} (hdg : decode cc pc = .ok (.putfield 140, 3)) (kk : ∀ (H1 : Heap) (locs1 : List Loc), ce_H D ad cA B0 X s (hp_up h 44 1 x) H1 locs1 → W p l e0 R s m args below meth c H1 locs1 cells slots Q (F0 m (pc + 3) ls rest)) : W p l e0 R s m args below meth c H locs cells slots Q (F0 m pc ls (.int x :: .ref (ad 44) :: rest)) := by
  exact ce_put C hH (k := 44) (ci := 2) (j := 1) (N := 5) (fy := fy_2) (sj := none) x (by decide) rfl rfl fw_2 fo_2 fn_2 (by decide) fl_11_140 rfl rfl (v := .int x) (by simp [ce_slot, upd]) rfl rfl hdg kk
theorem fl_11_137 : Cond.fieldLink cn_11 137 (ft_2 0).1 (ft_2 0).2.1 (ft_2 0).2.2.1 ∈ ce_cm := ce_cm_of (List.mem_of_getElem? (i := 356) (by decide +kernel)) (by decide +kernel)
theorem gf_11_137 (C : ce_Cx p s m args c meth cc nL ret cn_11 D ad cA B0 (ce_St aK aV B0)) (hH : ce_H D ad cA B0 X s h H locs) (hdg : decode cc pc = .ok (.getfield 137, 3)) (kk : W p l e0 R s m args below meth c H locs cells slots Q (F0 m (pc + 3) ls (.int (h 44 0) :: rest))) : W p l e0 R s m args below meth c H locs cells slots Q (F0 m pc ls (.ref (ad 44) :: rest)) := by
  exact ce_get C hH (k := 44) (ci := 2) (j := 0) (N := 5) (sj := none) (by decide) rfl rfl fw_2 (by decide) fl_11_137 rfl hdg kk
theorem pf_11_137 (C : ce_Cx p s m args c meth cc nL ret cn_11 D ad cA B0 (ce_St aK aV B0)) (hH : ce_H D ad cA B0 X s h H locs) {x : Int32} (hdg : decode cc pc = .ok (.putfield 137, 3)) (kk : ∀ (H1 : Heap) (locs1 : List Loc), ce_H D ad cA B0 X s (hp_up h 44 0 x) H1 locs1 → W p l e0 R s m args below meth c H1 locs1 cells slots Q (F0 m (pc + 3) ls rest)) : W p l e0 R s m args below meth c H locs cells slots Q (F0 m pc ls (.int x :: .ref (ad 44) :: rest)) := by
  exact ce_put C hH (k := 44) (ci := 2) (j := 0) (N := 5) (fy := fy_2) (sj := none) x (by decide) rfl rfl fw_2 fo_2 fn_2 (by decide) fl_11_137 rfl rfl (v := .int x) (by simp [ce_slot, upd]) rfl rfl hdg kk
theorem fl_11_134 : Cond.fieldLink cn_11 134 (ft_5 2).1 (ft_5 2).2.1 (ft_5 2).2.2.1 ∈ ce_cm := ce_cm_of (List.mem_of_getElem? (i := 203) (by decide +kernel)) (by decide +kernel)
theorem gf_11_134 (C : ce_Cx p s m args c meth cc nL ret cn_11 D ad cA B0 (ce_St aK aV B0)) (hH : ce_H D ad cA B0 X s h H locs) {k : Nat} (hk : ce_isNet k) (hdg : decode cc pc = .ok (.getfield 134, 3)) (kk : W p l e0 R s m args below meth c H locs cells slots Q (F0 m (pc + 3) ls (.int (h k 2) :: rest))) : W p l e0 R s m args below meth c H locs cells slots Q (F0 m pc ls (.ref (ad k) :: rest)) := by
  rcases hk with rfl | rfl
  · exact ce_get C hH (k := 7) (ci := 5) (j := 2) (N := 11) (sj := none) (by decide) rfl rfl fw_5 (by decide) fl_11_134 rfl hdg kk
  · exact ce_get C hH (k := 14) (ci := 5) (j := 2) (N := 11) (sj := none) (by decide) rfl rfl fw_5 (by decide) fl_11_134 rfl hdg kk
theorem pf_11_134 (C : ce_Cx p s m args c meth cc nL ret cn_11 D ad cA B0 (ce_St aK aV B0)) (hH : ce_H D ad cA B0 X s h H locs) {k : Nat} (hk : ce_isNet k) {x : Int32} (hdg : decode cc pc = .ok (.putfield 134, 3)) (kk : ∀ (H1 : Heap) (locs1 : List Loc), ce_H D ad cA B0 X s (hp_up h k 2 x) H1 locs1 → W p l e0 R s m args below meth c H1 locs1 cells slots Q (F0 m (pc + 3) ls rest)) : W p l e0 R s m args below meth c H locs cells slots Q (F0 m pc ls (.int x :: .ref (ad k) :: rest)) := by
  rcases hk with rfl | rfl
  · exact ce_put C hH (k := 7) (ci := 5) (j := 2) (N := 11) (fy := fy_5) (sj := none) x (by decide) rfl rfl fw_5 fo_5 fn_5 (by decide) fl_11_134 rfl rfl (v := .int x) (by simp [ce_slot, upd]) rfl rfl hdg kk
  · exact ce_put C hH (k := 14) (ci := 5) (j := 2) (N := 11) (fy := fy_5) (sj := none) x (by decide) rfl rfl fw_5 fo_5 fn_5 (by decide) fl_11_134 rfl rfl (v := .int x) (by simp [ce_slot, upd]) rfl rfl hdg kk
theorem fl_11_131 : Cond.fieldLink cn_11 131 (ft_5 1).1 (ft_5 1).2.1 (ft_5 1).2.2.1 ∈ ce_cm := ce_cm_of (List.mem_of_getElem? (i := 198) (by decide +kernel)) (by decide +kernel)
theorem gf_11_131 (C : ce_Cx p s m args c meth cc nL ret cn_11 D ad cA B0 (ce_St aK aV B0)) (hH : ce_H D ad cA B0 X s h H locs) {k : Nat} (hk : ce_isNet k) (hdg : decode cc pc = .ok (.getfield 131, 3)) (kk : W p l e0 R s m args below meth c H locs cells slots Q (F0 m (pc + 3) ls (.int (h k 1) :: rest))) : W p l e0 R s m args below meth c H locs cells slots Q (F0 m pc ls (.ref (ad k) :: rest)) := by
  rcases hk with rfl | rfl
  · exact ce_get C hH (k := 7) (ci := 5) (j := 1) (N := 11) (sj := none) (by decide) rfl rfl fw_5 (by decide) fl_11_131 rfl hdg kk
  · exact ce_get C hH (k := 14) (ci := 5) (j := 1) (N := 11) (sj := none) (by decide) rfl rfl fw_5 (by decide) fl_11_131 rfl hdg kk
theorem pf_11_131 (C : ce_Cx p s m args c meth cc nL ret cn_11 D ad cA B0 (ce_St aK aV B0)) (hH : ce_H D ad cA B0 X s h H locs) {k : Nat} (hk : ce_isNet k) {x : Int32} (hdg : decode cc pc = .ok (.putfield 131, 3)) (kk : ∀ (H1 : Heap) (locs1 : List Loc), ce_H D ad cA B0 X s (hp_up h k 1 x) H1 locs1 → W p l e0 R s m args below meth c H1 locs1 cells slots Q (F0 m (pc + 3) ls rest)) : W p l e0 R s m args below meth c H locs cells slots Q (F0 m pc ls (.int x :: .ref (ad k) :: rest)) := by
  rcases hk with rfl | rfl
  · exact ce_put C hH (k := 7) (ci := 5) (j := 1) (N := 11) (fy := fy_5) (sj := none) x (by decide) rfl rfl fw_5 fo_5 fn_5 (by decide) fl_11_131 rfl rfl (v := .int x) (by simp [ce_slot, upd]) rfl rfl hdg kk
  · exact ce_put C hH (k := 14) (ci := 5) (j := 1) (N := 11) (fy := fy_5) (sj := none) x (by decide) rfl rfl fw_5 fo_5 fn_5 (by decide) fl_11_131 rfl rfl (v := .int x) (by simp [ce_slot, upd]) rfl rfl hdg kk
theorem fl_11_128 : Cond.fieldLink cn_11 128 (ft_5 4).1 (ft_5 4).2.1 (ft_5 4).2.2.1 ∈ ce_cm := ce_cm_of (List.mem_of_getElem? (i := 211) (by decide +kernel)) (by decide +kernel)
theorem gf_11_128 (C : ce_Cx p s m args c meth cc nL ret cn_11 D ad cA B0 (ce_St aK aV B0)) (hH : ce_H D ad cA B0 X s h H locs) {k : Nat} (hk : ce_isNet k) (hdg : decode cc pc = .ok (.getfield 128, 3)) (kk : W p l e0 R s m args below meth c H locs cells slots Q (F0 m (pc + 3) ls (.int (h k 4) :: rest))) : W p l e0 R s m args below meth c H locs cells slots Q (F0 m pc ls (.ref (ad k) :: rest)) := by
  rcases hk with rfl | rfl
  · exact ce_get C hH (k := 7) (ci := 5) (j := 4) (N := 11) (sj := none) (by decide) rfl rfl fw_5 (by decide) fl_11_128 rfl hdg kk
  · exact ce_get C hH (k := 14) (ci := 5) (j := 4) (N := 11) (sj := none) (by decide) rfl rfl fw_5 (by decide) fl_11_128 rfl hdg kk
theorem pf_11_128 (C : ce_Cx p s m args c meth cc nL ret cn_11 D ad cA B0 (ce_St aK aV B0)) (hH : ce_H D ad cA B0 X s h H locs) {k : Nat} (hk : ce_isNet k) {x : Int32} (hdg : decode cc pc = .ok (.putfield 128, 3)) (kk : ∀ (H1 : Heap) (locs1 : List Loc), ce_H D ad cA B0 X s (hp_up h k 4 x) H1 locs1 → W p l e0 R s m args below meth c H1 locs1 cells slots Q (F0 m (pc + 3) ls rest)) : W p l e0 R s m args below meth c H locs cells slots Q (F0 m pc ls (.int x :: .ref (ad k) :: rest)) := by
  rcases hk with rfl | rfl
  · exact ce_put C hH (k := 7) (ci := 5) (j := 4) (N := 11) (fy := fy_5) (sj := none) x (by decide) rfl rfl fw_5 fo_5 fn_5 (by decide) fl_11_128 rfl rfl (v := .int x) (by simp [ce_slot, upd]) rfl rfl hdg kk
  · exact ce_put C hH (k := 14) (ci := 5) (j := 4) (N := 11) (fy := fy_5) (sj := none) x (by decide) rfl rfl fw_5 fo_5 fn_5 (by decide) fl_11_128 rfl rfl (v := .int x) (by simp [ce_slot, upd]) rfl rfl hdg kk
theorem fl_11_125 : Cond.fieldLink cn_11 125 (ft_5 3).1 (ft_5 3).2.1 (ft_5 3).2.2.1 ∈ ce_cm := ce_cm_of (List.mem_of_getElem? (i := 209) (by decide +kernel)) (by decide +kernel)
theorem gf_11_125 (C : ce_Cx p s m args c meth cc nL ret cn_11 D ad cA B0 (ce_St aK aV B0)) (hH : ce_H D ad cA B0 X s h H locs) {k : Nat} (hk : ce_isNet k) (hdg : decode cc pc = .ok (.getfield 125, 3)) (kk : W p l e0 R s m args below meth c H locs cells slots Q (F0 m (pc + 3) ls (.int (h k 3) :: rest))) : W p l e0 R s m args below meth c H locs cells slots Q (F0 m pc ls (.ref (ad k) :: rest)) := by
  rcases hk with rfl | rfl
  · exact ce_get C hH (k := 7) (ci := 5) (j := 3) (N := 11) (sj := none) (by decide) rfl rfl fw_5 (by decide) fl_11_125 rfl hdg kk
  · exact ce_get C hH (k := 14) (ci := 5) (j := 3) (N := 11) (sj := none) (by decide) rfl rfl fw_5 (by decide) fl_11_125 rfl hdg kk
theorem pf_11_125 (C : ce_Cx p s m args c meth cc nL ret cn_11 D ad cA B0 (ce_St aK aV B0)) (hH : ce_H D ad cA B0 X s h H locs) {k : Nat} (hk : ce_isNet k) {x : Int32} (hdg : decode cc pc = .ok (.putfield 125, 3)) (kk : ∀ (H1 : Heap) (locs1 : List Loc), ce_H D ad cA B0 X s (hp_up h k 3 x) H1 locs1 → W p l e0 R s m args below meth c H1 locs1 cells slots Q (F0 m (pc + 3) ls rest)) : W p l e0 R s m args below meth c H locs cells slots Q (F0 m pc ls (.int x :: .ref (ad k) :: rest)) := by
  rcases hk with rfl | rfl
  · exact ce_put C hH (k := 7) (ci := 5) (j := 3) (N := 11) (fy := fy_5) (sj := none) x (by decide) rfl rfl fw_5 fo_5 fn_5 (by decide) fl_11_125 rfl rfl (v := .int x) (by simp [ce_slot, upd]) rfl rfl hdg kk
  · exact ce_put C hH (k := 14) (ci := 5) (j := 3) (N := 11) (fy := fy_5) (sj := none) x (by decide) rfl rfl fw_5 fo_5 fn_5 (by decide) fl_11_125 rfl rfl (v := .int x) (by simp [ce_slot, upd]) rfl rfl hdg kk
def f11_count (F : Nat) (x1 : Int32) (h : Hp) : Option (Int32 × Hp) :=
  if x1 = (0 : Int32) then
    ce_nm ((h 0 2).toNatClampNeg) (fun k_53 => if ce_isNet k_53 then
      some (h k_53 3, h)
    else none)
  else
    if x1 = (1 : Int32) then
      ce_nm ((h 0 2).toNatClampNeg) (fun k_61 => if ce_isNet k_61 then
        some (h k_61 4, h)
      else none)
    else
      if x1 = (2 : Int32) then
        ce_nm ((h 0 2).toNatClampNeg) (fun k_69 => if ce_isNet k_69 then
          some (h k_69 1, h)
        else none)
      else
        if x1 = (3 : Int32) then
          ce_nm ((h 0 2).toNatClampNeg) (fun k_77 => if ce_isNet k_77 then
            some (h k_77 2, h)
          else none)
        else
          if x1 = (4 : Int32) then
            some (h 35 0, h)
          else
            if x1 = (5 : Int32) then
              ce_nm ((h 0 2).toNatClampNeg) (fun k_93 => if ce_isNet k_93 then
                some (h k_93 0, h)
              else none)
            else
              if x1 = (6 : Int32) then
                some (h 2 1, h)
              else
                if x1 = (7 : Int32) then
                  some (h 44 0, h)
                else
                  if x1 = (8 : Int32) then
                    some (h 44 1, h)
                  else
                    some ((-1 : Int32), h)
set_option maxRecDepth 20000 in
theorem c11_count (l : Launch) (D : va_G) (ad : Nat → Nat) (cA : Nat → ClassId) (aK aV : Nat → Nat) (B0 : Nat) (hA : ce_Ad ad B0) (F : Nat) (x1 : Int32)  (h : Hp) (r : Int32 × Hp) (e : f11_count F x1 h = some r) : ce_Ct l D ad cA B0 (ce_St aK aV B0) y11_count b11_count 2 (some .int) 0 0 0 0 [.ref (ad 0), .int x1] h (some (.int r.1)) r.2 := by
  refine ce_enter hA (by decide) rfl (Nat.le_of_ble_eq_true rfl) (fun p e0 s m below meth c ls C hH hl => ?_)
  have hl : lv_has ls 2 [(0, .ref (ad 0)), (1, .int x1)] := hl
  have hx := C.1
  have hb := C.2.1
  have e : Option.bind _ some = some r := (congrArg (fun z => Option.bind z some) e).trans rfl
  unfold f11_count at e
  refine lv_iload_n hx hb d11_count_0 rfl (lv_at hl 1 rfl) ?_
  by_cases hc1_0 : x1 = (0 : Int32)
  · have e := ce_if1 e hc1_0
    refine lv_tableIn (off := 51) (tgt := 52) hx hb d11_count_1 (by rw [hc1_0]; decide) (by rw [hc1_0]; decide) (by rw [hc1_0]; rfl) (by decide) ?_
    refine lv_aload_n hx hb d11_count_52 rfl (lv_at hl 0 rfl) ?_
    refine gf_11_26 C hH d11_count_53 ?_
    obtain ⟨k_53, ek_53, e⟩ := ce_nmE e
    obtain ⟨hk_53, e⟩ := ce_gd e
    rw [← ek_53]
    refine gf_11_125 C hH hk_53 d11_count_56 ?_
    exact ce_iretE C (ce_sok aK aV B0) hH e d11_count_59
  · have e := ce_if0 e hc1_0
    by_cases hc1_1 : x1 = (1 : Int32)
    · have e := ce_if1 e hc1_1
      refine lv_tableIn (off := 59) (tgt := 60) hx hb d11_count_1 (by rw [hc1_1]; decide) (by rw [hc1_1]; decide) (by rw [hc1_1]; rfl) (by decide) ?_
      refine lv_aload_n hx hb d11_count_60 rfl (lv_at hl 0 rfl) ?_
      refine gf_11_26 C hH d11_count_61 ?_
      obtain ⟨k_61, ek_61, e⟩ := ce_nmE e
      obtain ⟨hk_61, e⟩ := ce_gd e
      rw [← ek_61]
      refine gf_11_128 C hH hk_61 d11_count_64 ?_
      exact ce_iretE C (ce_sok aK aV B0) hH e d11_count_67
    · have e := ce_if0 e hc1_1
      by_cases hc1_2 : x1 = (2 : Int32)
      · have e := ce_if1 e hc1_2
        refine lv_tableIn (off := 67) (tgt := 68) hx hb d11_count_1 (by rw [hc1_2]; decide) (by rw [hc1_2]; decide) (by rw [hc1_2]; rfl) (by decide) ?_
        refine lv_aload_n hx hb d11_count_68 rfl (lv_at hl 0 rfl) ?_
        refine gf_11_26 C hH d11_count_69 ?_
        obtain ⟨k_69, ek_69, e⟩ := ce_nmE e
        obtain ⟨hk_69, e⟩ := ce_gd e
        rw [← ek_69]
        refine gf_11_131 C hH hk_69 d11_count_72 ?_
        exact ce_iretE C (ce_sok aK aV B0) hH e d11_count_75
      · have e := ce_if0 e hc1_2
        by_cases hc1_3 : x1 = (3 : Int32)
        · have e := ce_if1 e hc1_3
          refine lv_tableIn (off := 75) (tgt := 76) hx hb d11_count_1 (by rw [hc1_3]; decide) (by rw [hc1_3]; decide) (by rw [hc1_3]; rfl) (by decide) ?_
          refine lv_aload_n hx hb d11_count_76 rfl (lv_at hl 0 rfl) ?_
          refine gf_11_26 C hH d11_count_77 ?_
          obtain ⟨k_77, ek_77, e⟩ := ce_nmE e
          obtain ⟨hk_77, e⟩ := ce_gd e
          rw [← ek_77]
          refine gf_11_134 C hH hk_77 d11_count_80 ?_
          exact ce_iretE C (ce_sok aK aV B0) hH e d11_count_83
        · have e := ce_if0 e hc1_3
          by_cases hc1_4 : x1 = (4 : Int32)
          · have e := ce_if1 e hc1_4
            refine lv_tableIn (off := 83) (tgt := 84) hx hb d11_count_1 (by rw [hc1_4]; decide) (by rw [hc1_4]; decide) (by rw [hc1_4]; rfl) (by decide) ?_
            refine lv_aload_n hx hb d11_count_84 rfl (lv_at hl 0 rfl) ?_
            refine gf_11_46 C hH d11_count_85 ?_
            refine gf_11_110 C hH d11_count_88 ?_
            exact ce_iretE C (ce_sok aK aV B0) hH e d11_count_91
          · have e := ce_if0 e hc1_4
            by_cases hc1_5 : x1 = (5 : Int32)
            · have e := ce_if1 e hc1_5
              refine lv_tableIn (off := 91) (tgt := 92) hx hb d11_count_1 (by rw [hc1_5]; decide) (by rw [hc1_5]; decide) (by rw [hc1_5]; rfl) (by decide) ?_
              refine lv_aload_n hx hb d11_count_92 rfl (lv_at hl 0 rfl) ?_
              refine gf_11_26 C hH d11_count_93 ?_
              obtain ⟨k_93, ek_93, e⟩ := ce_nmE e
              obtain ⟨hk_93, e⟩ := ce_gd e
              rw [← ek_93]
              refine gf_11_116 C hH hk_93 d11_count_96 ?_
              exact ce_iretE C (ce_sok aK aV B0) hH e d11_count_99
            · have e := ce_if0 e hc1_5
              by_cases hc1_6 : x1 = (6 : Int32)
              · have e := ce_if1 e hc1_6
                refine lv_tableIn (off := 99) (tgt := 100) hx hb d11_count_1 (by rw [hc1_6]; decide) (by rw [hc1_6]; decide) (by rw [hc1_6]; rfl) (by decide) ?_
                refine lv_aload_n hx hb d11_count_100 rfl (lv_at hl 0 rfl) ?_
                refine gf_11_10 C hH d11_count_101 ?_
                refine gf_11_88 C hH d11_count_104 ?_
                refine gf_11_92 C hH d11_count_107 ?_
                exact ce_iretE C (ce_sok aK aV B0) hH e d11_count_110
              · have e := ce_if0 e hc1_6
                by_cases hc1_7 : x1 = (7 : Int32)
                · have e := ce_if1 e hc1_7
                  refine lv_tableIn (off := 110) (tgt := 111) hx hb d11_count_1 (by rw [hc1_7]; decide) (by rw [hc1_7]; decide) (by rw [hc1_7]; rfl) (by decide) ?_
                  refine lv_aload_n hx hb d11_count_111 rfl (lv_at hl 0 rfl) ?_
                  refine gf_11_60 C hH d11_count_112 ?_
                  refine gf_11_137 C hH d11_count_115 ?_
                  exact ce_iretE C (ce_sok aK aV B0) hH e d11_count_118
                · have e := ce_if0 e hc1_7
                  by_cases hc1_8 : x1 = (8 : Int32)
                  · have e := ce_if1 e hc1_8
                    refine lv_tableIn (off := 118) (tgt := 119) hx hb d11_count_1 (by rw [hc1_8]; decide) (by rw [hc1_8]; decide) (by rw [hc1_8]; rfl) (by decide) ?_
                    refine lv_aload_n hx hb d11_count_119 rfl (lv_at hl 0 rfl) ?_
                    refine gf_11_60 C hH d11_count_120 ?_
                    refine gf_11_140 C hH d11_count_123 ?_
                    exact ce_iretE C (ce_sok aK aV B0) hH e d11_count_126
                  · have e := ce_if0 e hc1_8
                    refine lv_tableOut (tgt := 127) hx hb d11_count_1 (ce_tblOut (n := 9) (fun i hi => ?_) (by decide)) (by decide) ?_
                    · match i, hi with
                      | 0, _ => exact hc1_0
                      | 1, _ => exact hc1_1
                      | 2, _ => exact hc1_2
                      | 3, _ => exact hc1_3
                      | 4, _ => exact hc1_4
                      | 5, _ => exact hc1_5
                      | 6, _ => exact hc1_6
                      | 7, _ => exact hc1_7
                      | 8, _ => exact hc1_8
                      | i + 9, hi => exact absurd hi (by omega)
                    · refine lv_iconst (v := (-1 : Int32)) hx hb d11_count_127 (by decide) ?_
                      exact ce_iretE C (ce_sok aK aV B0) hH e d11_count_128
end C7
