-- C6: functions and contracts, written by wip/whole/gen (mgen.py, walk.py, walk2.py) out of the bytecode
section C6
variable {p : Program} {l : Launch} {e0 : Env} {R : Room} {s : State} {m : MethodId} {args : Array Value} {below : List Frame} {meth : Method} {c : Code} {H : Heap} {locs : List Loc} {cells slots : Nat} {Q : State → Prop}
variable {cc : ByteArray} {pc nL : Nat} {ret : Option FieldType} {ls : Array Slot} {rest : List Value} {D : va_G} {ad : Nat → Nat} {cA : Nat → ClassId} {B0 : Nat} {X : va_W} {h : Hp} {aK aV : Nat → Nat}
abbrev b9_readPacket : ByteArray := prog_11_method_3_code
def y9_readPacket : MethodName := ⟨cn_9, "readPacket", "(LCableElection$Reading;)V"⟩
theorem d9_readPacket_0 : decode b9_readPacket 0 = .ok (.aload_n 1, 1) := by decide +kernel
theorem d9_readPacket_1 : decode b9_readPacket 1 = .ok (.invokestatic 61, 3) := by decide +kernel
theorem d9_readPacket_4 : decode b9_readPacket 4 = .ok (.ifCond .ne 9, 3) := by decide +kernel
theorem d9_readPacket_7 : decode b9_readPacket 7 = .ok (.aload_n 1, 1) := by decide +kernel
theorem d9_readPacket_8 : decode b9_readPacket 8 = .ok (.iconst 1, 1) := by decide +kernel
theorem d9_readPacket_9 : decode b9_readPacket 9 = .ok (.invokevirtual 57, 3) := by decide +kernel
theorem d9_readPacket_12 : decode b9_readPacket 12 = .ok (.return_, 1) := by decide +kernel
theorem d9_readPacket_13 : decode b9_readPacket 13 = .ok (.aload_n 1, 1) := by decide +kernel
theorem d9_readPacket_14 : decode b9_readPacket 14 = .ok (.iconst 2, 1) := by decide +kernel
theorem d9_readPacket_15 : decode b9_readPacket 15 = .ok (.invokestatic 65, 3) := by decide +kernel
theorem d9_readPacket_18 : decode b9_readPacket 18 = .ok (.istore_n 2, 1) := by decide +kernel
theorem d9_readPacket_19 : decode b9_readPacket 19 = .ok (.aload_n 1, 1) := by decide +kernel
theorem d9_readPacket_20 : decode b9_readPacket 20 = .ok (.iconst 1, 1) := by decide +kernel
theorem d9_readPacket_21 : decode b9_readPacket 21 = .ok (.invokestatic 65, 3) := by decide +kernel
theorem d9_readPacket_24 : decode b9_readPacket 24 = .ok (.ifCond .ne 7, 3) := by decide +kernel
theorem d9_readPacket_27 : decode b9_readPacket 27 = .ok (.iconst 1, 1) := by decide +kernel
theorem d9_readPacket_28 : decode b9_readPacket 28 = .ok (.goto 4, 3) := by decide +kernel
theorem d9_readPacket_31 : decode b9_readPacket 31 = .ok (.iconst 0, 1) := by decide +kernel
theorem d9_readPacket_32 : decode b9_readPacket 32 = .ok (.istore_n 3, 1) := by decide +kernel
theorem d9_readPacket_33 : decode b9_readPacket 33 = .ok (.iload_n 2, 1) := by decide +kernel
theorem d9_readPacket_34 : decode b9_readPacket 34 = .ok (.aload_n 0, 1) := by decide +kernel
theorem d9_readPacket_35 : decode b9_readPacket 35 = .ok (.getfield 34, 3) := by decide +kernel
theorem d9_readPacket_38 : decode b9_readPacket 38 = .ok (.if_icmp .gt 15, 3) := by decide +kernel
theorem d9_readPacket_41 : decode b9_readPacket 41 = .ok (.iload_n 3, 1) := by decide +kernel
theorem d9_readPacket_42 : decode b9_readPacket 42 = .ok (.ifCond .eq 19, 3) := by decide +kernel
theorem d9_readPacket_45 : decode b9_readPacket 45 = .ok (.iload_n 2, 1) := by decide +kernel
theorem d9_readPacket_46 : decode b9_readPacket 46 = .ok (.aload_n 0, 1) := by decide +kernel
theorem d9_readPacket_47 : decode b9_readPacket 47 = .ok (.getfield 34, 3) := by decide +kernel
theorem d9_readPacket_50 : decode b9_readPacket 50 = .ok (.if_icmp .ge 11, 3) := by decide +kernel
theorem d9_readPacket_53 : decode b9_readPacket 53 = .ok (.aload_n 1, 1) := by decide +kernel
theorem d9_readPacket_54 : decode b9_readPacket 54 = .ok (.iconst 2, 1) := by decide +kernel
theorem d9_readPacket_55 : decode b9_readPacket 55 = .ok (.invokevirtual 57, 3) := by decide +kernel
theorem d9_readPacket_58 : decode b9_readPacket 58 = .ok (.goto 41, 3) := by decide +kernel
theorem d9_readPacket_61 : decode b9_readPacket 61 = .ok (.aload_n 0, 1) := by decide +kernel
theorem d9_readPacket_62 : decode b9_readPacket 62 = .ok (.getfield 9, 3) := by decide +kernel
theorem d9_readPacket_65 : decode b9_readPacket 65 = .ok (.bipush 12, 2) := by decide +kernel
theorem d9_readPacket_67 : decode b9_readPacket 67 = .ok (.if_icmp .ge 10, 3) := by decide +kernel
theorem d9_readPacket_70 : decode b9_readPacket 70 = .ok (.aload_n 0, 1) := by decide +kernel
theorem d9_readPacket_71 : decode b9_readPacket 71 = .ok (.getfield 37, 3) := by decide +kernel
theorem d9_readPacket_74 : decode b9_readPacket 74 = .ok (.ifCond .eq 11, 3) := by decide +kernel
theorem d9_readPacket_77 : decode b9_readPacket 77 = .ok (.aload_n 1, 1) := by decide +kernel
theorem d9_readPacket_78 : decode b9_readPacket 78 = .ok (.iconst 3, 1) := by decide +kernel
theorem d9_readPacket_79 : decode b9_readPacket 79 = .ok (.invokevirtual 57, 3) := by decide +kernel
theorem d9_readPacket_82 : decode b9_readPacket 82 = .ok (.goto 17, 3) := by decide +kernel
theorem d9_readPacket_85 : decode b9_readPacket 85 = .ok (.aload_n 0, 1) := by decide +kernel
theorem d9_readPacket_86 : decode b9_readPacket 86 = .ok (.aload_n 1, 1) := by decide +kernel
theorem d9_readPacket_87 : decode b9_readPacket 87 = .ok (.invokevirtual 69, 3) := by decide +kernel
theorem d9_readPacket_90 : decode b9_readPacket 90 = .ok (.aload_n 0, 1) := by decide +kernel
theorem d9_readPacket_91 : decode b9_readPacket 91 = .ok (.iload_n 3, 1) := by decide +kernel
theorem d9_readPacket_92 : decode b9_readPacket 92 = .ok (.putfield 37, 3) := by decide +kernel
theorem d9_readPacket_95 : decode b9_readPacket 95 = .ok (.aload_n 1, 1) := by decide +kernel
theorem d9_readPacket_96 : decode b9_readPacket 96 = .ok (.invokevirtual 72, 3) := by decide +kernel
theorem d9_readPacket_99 : decode b9_readPacket 99 = .ok (.return_, 1) := by decide +kernel
theorem ml_9_57 : Cond.methodLink cn_9 57 y6_refuse ∈ ce_cm := ce_cm_of (List.mem_of_getElem? (i := 968) (by decide +kernel)) (by decide +kernel)
theorem fl_9_37 : Cond.fieldLink cn_9 37 (ft_9 8).1 (ft_9 8).2.1 (ft_9 8).2.2.1 ∈ ce_cm := ce_cm_of (List.mem_of_getElem? (i := 282) (by decide +kernel)) (by decide +kernel)
theorem gf_9_37 (C : ce_Cx p s m args c meth cc nL ret cn_9 D ad cA B0 (ce_St aK aV B0)) (hH : ce_H D ad cA B0 X s h H locs) {k : Nat} (hk : ce_isTold k) (hdg : decode cc pc = .ok (.getfield 37, 3)) (kk : W p l e0 R s m args below meth c H locs cells slots Q (F0 m (pc + 3) ls (.int (h k 8) :: rest))) : W p l e0 R s m args below meth c H locs cells slots Q (F0 m pc ls (.ref (ad k) :: rest)) := by
  rcases hk with rfl | rfl
  · exact ce_get C hH (k := 21) (ci := 9) (j := 8) (N := 9) (sj := none) (by decide) rfl rfl fw_9 (by decide) fl_9_37 rfl hdg kk
  · exact ce_get C hH (k := 28) (ci := 9) (j := 8) (N := 9) (sj := none) (by decide) rfl rfl fw_9 (by decide) fl_9_37 rfl hdg kk
theorem pf_9_37 (C : ce_Cx p s m args c meth cc nL ret cn_9 D ad cA B0 (ce_St aK aV B0)) (hH : ce_H D ad cA B0 X s h H locs) {k : Nat} (hk : ce_isTold k) {x : Int32} (hz : x = 0 ∨ x = 1) (hdg : decode cc pc = .ok (.putfield 37, 3)) (kk : ∀ (H1 : Heap) (locs1 : List Loc), ce_H D ad cA B0 X s (hp_up h k 8 x) H1 locs1 → W p l e0 R s m args below meth c H1 locs1 cells slots Q (F0 m (pc + 3) ls rest)) : W p l e0 R s m args below meth c H locs cells slots Q (F0 m pc ls (.int x :: .ref (ad k) :: rest)) := by
  rcases hk with rfl | rfl
  · exact ce_put C hH (k := 21) (ci := 9) (j := 8) (N := 9) (fy := fy_9) (sj := none) x (by decide) rfl rfl fw_9 fo_9 fn_9 (by decide) fl_9_37 rfl rfl (v := .int x) (by simp [ce_slot, upd]) (by rcases hz with rfl | rfl <;> rfl) (by rcases hz with rfl | rfl <;> rfl) hdg kk
  · exact ce_put C hH (k := 28) (ci := 9) (j := 8) (N := 9) (fy := fy_9) (sj := none) x (by decide) rfl rfl fw_9 fo_9 fn_9 (by decide) fl_9_37 rfl rfl (v := .int x) (by simp [ce_slot, upd]) (by rcases hz with rfl | rfl <;> rfl) (by rcases hz with rfl | rfl <;> rfl) hdg kk
theorem ml_9_72 : Cond.methodLink cn_9 72 y6_advance ∈ ce_cm := ce_cm_of (List.mem_of_getElem? (i := 978) (by decide +kernel)) (by decide +kernel)
theorem mc9_addPacket : Cond.code y9_addPacket b9_addPacket 5 none ∈ ce_cm := ce_cm_of (List.mem_of_getElem? (i := 972) (by decide +kernel)) (by decide +kernel)
theorem ml_9_69 : Cond.methodLink cn_9 69 y9_addPacket ∈ ce_cm := ce_cm_of (List.mem_of_getElem? (i := 969) (by decide +kernel)) (by decide +kernel)
theorem mi9_addPacket : Cond.instanceMethod y9_addPacket ∈ ce_cm := ce_cm_of (List.mem_of_getElem? (i := 971) (by decide +kernel)) (by decide +kernel)
theorem ms9_addPacket : Cond.selects cn_9 y9_addPacket y9_addPacket ∈ ce_cm := ce_cm_of (List.mem_of_getElem? (i := 25) (by decide +kernel)) (by decide +kernel)
theorem mc9_isPacketHere : Cond.code y9_isPacketHere b9_isPacketHere 3 (some .boolean) ∈ ce_cm := ce_cm_of (List.mem_of_getElem? (i := 960) (by decide +kernel)) (by decide +kernel)
theorem ml_9_61 : Cond.methodLink cn_9 61 y9_isPacketHere ∈ ce_cm := ce_cm_of (List.mem_of_getElem? (i := 958) (by decide +kernel)) (by decide +kernel)
theorem mt9_isPacketHere : Cond.static y9_isPacketHere ∈ ce_cm := ce_cm_of (List.mem_of_getElem? (i := 959) (by decide +kernel)) (by decide +kernel)
def f9_readPacket_j32 (F : Nat) (k0 : Nat) (x2 : Int32) (s0 : Int32) (h : Hp) : Option (Hp) :=
  if (h k0 7) < x2 then
    Option.bind (f6_refuse F (2 : Int32) h) (fun o55 =>
      some o55)
  else
    if s0 = 0 then
      if (12 : Int32) ≤ (h k0 0) then
        Option.bind (f6_refuse F (3 : Int32) h) (fun o79 =>
          some o79)
      else
        if (h k0 8) = 0 then
          Option.bind (f9_addPacket F k0 h) (fun o87 =>
            if s0 = 0 ∨ s0 = 1 then
              ce_nm (hp_up o87 k0 8 s0) (fun h_92 =>
                Option.bind (f6_advance F  h_92) (fun o96 =>
                  some o96))
            else none)
        else
          Option.bind (f6_refuse F (3 : Int32) h) (fun o79 =>
            some o79)
    else
      if (h k0 7) ≤ x2 then
        if (12 : Int32) ≤ (h k0 0) then
          Option.bind (f6_refuse F (3 : Int32) h) (fun o79 =>
            some o79)
        else
          if (h k0 8) = 0 then
            Option.bind (f9_addPacket F k0 h) (fun o87 =>
              if s0 = 0 ∨ s0 = 1 then
                ce_nm (hp_up o87 k0 8 s0) (fun h_92 =>
                  Option.bind (f6_advance F  h_92) (fun o96 =>
                    some o96))
              else none)
          else
            Option.bind (f6_refuse F (3 : Int32) h) (fun o79 =>
              some o79)
      else
        Option.bind (f6_refuse F (2 : Int32) h) (fun o55 =>
          some o55)
set_option maxRecDepth 20000 in
theorem j9_readPacket_32 (C : ce_Cx p s m args c meth b9_readPacket 4 none cn_9 D ad cA B0 (ce_St aK aV B0)) (F : Nat) (k0 : Nat) (x2 : Int32) (s0 : Int32) (hk0 : ce_isTold k0) (r : Hp) (h : Hp) (H : Heap) (locs : List Loc) (ls : Array Slot) (hH : ce_H D ad cA B0 [] s h H locs) (hl : lv_has ls 4 [(0, .ref (ad k0)), (1, .ref (ad 1)), (2, .int x2)]) (e : Option.bind (f9_readPacket_j32 F k0 x2 s0 h) some = some r) : W p l e0 { frames := 3, cells := 0, slots := 0, locals := 66 } s m args below meth c H locs 0 0 (MQ below (ce_Q D ad cA B0 (ce_St aK aV B0) none r) args s 0 0 (fun q => B0 ≤ q)) (F0 m 32 ls [.int s0]) := by
  have hx9 := C.1
  have hb := C.2.1
  unfold f9_readPacket_j32 at e
  refine lv_istore_n (lv' := [(3, .int s0), (0, .ref (ad k0)), (1, .ref (ad 1)), (2, .int x2)]) hx9 hb d9_readPacket_32 rfl hl (by decide) rfl (fun ls hl => ?_)
  refine lv_iload_n hx9 hb d9_readPacket_33 rfl (lv_at hl 3 rfl) ?_
  refine lv_aload_n hx9 hb d9_readPacket_34 rfl (lv_at hl 1 rfl) ?_
  refine gf_9_34 C hH hk0 d9_readPacket_35 ?_
  refine lv_icmp_gt (tgt := 53) hx9 hb d9_readPacket_38 (by decide) (fun hc38 => ?_) (fun hc38 => ?_)
  · have e := ce_if1 e hc38
    refine lv_aload_n hx9 hb d9_readPacket_53 rfl (lv_at hl 2 rfl) ?_
    refine lv_iconst (v := (2 : Int32)) hx9 hb d9_readPacket_54 (by decide) ?_
    obtain ⟨o55, eo55, e⟩ := ce_bd e
    refine ce_callV (As := [.int (2 : Int32)]) (rest := []) C (ce_sok aK aV B0) hH (c6_refuse l D ad cA aK aV B0 C.2.2.2.2.2.2.1 F (2 : Int32)  h o55 eo55) lo_1.1 lo_1.2.choose_spec rfl rfl mc6_refuse ml_9_57 mi6_refuse ms6_refuse mI_6 (n := 1) (by decide) rfl ⟨Nat.le_of_ble_eq_true rfl, Nat.le_of_ble_eq_true rfl⟩ ⟨Nat.le_of_ble_eq_true rfl, Nat.le_of_ble_eq_true rfl⟩ hl.1 rfl (Nat.le_of_ble_eq_true rfl) d9_readPacket_55 (fun H locs hH => ?_)
    refine W.eq (g2 := F0 m 58 ls []) rfl ?_
    refine lv_goto (tgt := 99) hx9 hb d9_readPacket_58 (by decide) ?_
    exact ce_vret C (ce_sok aK aV B0) hH (Option.some.inj e) d9_readPacket_99
  · have e := ce_if0 e hc38
    refine lv_iload_n hx9 hb d9_readPacket_41 rfl (lv_at hl 0 rfl) ?_
    refine lv_if_eq (tgt := 61) hx9 hb d9_readPacket_42 (by decide) (fun hc42 => ?_) (fun hc42 => ?_)
    · have e := ce_if1 e hc42
      refine lv_aload_n hx9 hb d9_readPacket_61 rfl (lv_at hl 1 rfl) ?_
      refine gf_9_9 C hH hk0 d9_readPacket_62 ?_
      refine lv_bipush (v := (12 : Int32)) hx9 hb d9_readPacket_65 (by decide) ?_
      refine lv_icmp_ge (tgt := 77) hx9 hb d9_readPacket_67 (by decide) (fun hc67 => ?_) (fun hc67 => ?_)
      · have e := ce_if1 e hc67
        refine lv_aload_n hx9 hb d9_readPacket_77 rfl (lv_at hl 2 rfl) ?_
        refine lv_iconst (v := (3 : Int32)) hx9 hb d9_readPacket_78 (by decide) ?_
        obtain ⟨o79, eo79, e⟩ := ce_bd e
        refine ce_callV (As := [.int (3 : Int32)]) (rest := []) C (ce_sok aK aV B0) hH (c6_refuse l D ad cA aK aV B0 C.2.2.2.2.2.2.1 F (3 : Int32)  h o79 eo79) lo_1.1 lo_1.2.choose_spec rfl rfl mc6_refuse ml_9_57 mi6_refuse ms6_refuse mI_6 (n := 1) (by decide) rfl ⟨Nat.le_of_ble_eq_true rfl, Nat.le_of_ble_eq_true rfl⟩ ⟨Nat.le_of_ble_eq_true rfl, Nat.le_of_ble_eq_true rfl⟩ hl.1 rfl (Nat.le_of_ble_eq_true rfl) d9_readPacket_79 (fun H locs hH => ?_)
        refine W.eq (g2 := F0 m 82 ls []) rfl ?_
        refine lv_goto (tgt := 99) hx9 hb d9_readPacket_82 (by decide) ?_
        exact ce_vret C (ce_sok aK aV B0) hH (Option.some.inj e) d9_readPacket_99
      · have e := ce_if0 e hc67
        refine lv_aload_n hx9 hb d9_readPacket_70 rfl (lv_at hl 1 rfl) ?_
        refine gf_9_37 C hH hk0 d9_readPacket_71 ?_
        refine lv_if_eq (tgt := 85) hx9 hb d9_readPacket_74 (by decide) (fun hc74 => ?_) (fun hc74 => ?_)
        · have e := ce_if1 e hc74
          refine lv_aload_n hx9 hb d9_readPacket_85 rfl (lv_at hl 1 rfl) ?_
          refine lv_aload_n hx9 hb d9_readPacket_86 rfl (lv_at hl 2 rfl) ?_
          obtain ⟨o87, eo87, e⟩ := ce_bd e
          refine ce_callV (As := [.ref (ad 1)]) (rest := []) C (ce_sok aK aV B0) hH (c9_addPacket l D ad cA aK aV B0 C.2.2.2.2.2.2.1 F k0 hk0 h o87 eo87) (lk_Told hk0).1 (lk_Told hk0).2.choose_spec rfl rfl mc9_addPacket ml_9_69 mi9_addPacket ms9_addPacket mI_9 (n := 1) (by decide) rfl ⟨Nat.le_of_ble_eq_true rfl, Nat.le_of_ble_eq_true rfl⟩ ⟨Nat.le_of_ble_eq_true rfl, Nat.le_of_ble_eq_true rfl⟩ hl.1 rfl (Nat.le_of_ble_eq_true rfl) d9_readPacket_87 (fun H locs hH => ?_)
          refine W.eq (g2 := F0 m 90 ls []) rfl ?_
          refine lv_aload_n hx9 hb d9_readPacket_90 rfl (lv_at hl 1 rfl) ?_
          refine lv_iload_n hx9 hb d9_readPacket_91 rfl (lv_at hl 0 rfl) ?_
          obtain ⟨hz_92, e⟩ := ce_gd e
          refine pf_9_37 C hH hk0 hz_92 d9_readPacket_92 (fun H locs hH => ?_)
          obtain ⟨h_92, eh_92, e⟩ := ce_nmE e
          rw [← eh_92] at hH
          refine lv_aload_n hx9 hb d9_readPacket_95 rfl (lv_at hl 2 rfl) ?_
          obtain ⟨o96, eo96, e⟩ := ce_bd e
          refine ce_callV (As := []) (rest := []) C (ce_sok aK aV B0) hH (c6_advance l D ad cA aK aV B0 C.2.2.2.2.2.2.1 F   h_92 o96 eo96) lo_1.1 lo_1.2.choose_spec rfl rfl mc6_advance ml_9_72 mi6_advance ms6_advance mI_6 (n := 0) (by decide) rfl ⟨Nat.le_of_ble_eq_true rfl, Nat.le_of_ble_eq_true rfl⟩ ⟨Nat.le_of_ble_eq_true rfl, Nat.le_of_ble_eq_true rfl⟩ hl.1 rfl (Nat.le_of_ble_eq_true rfl) d9_readPacket_96 (fun H locs hH => ?_)
          refine W.eq (g2 := F0 m 99 ls []) rfl ?_
          exact ce_vret C (ce_sok aK aV B0) hH (Option.some.inj e) d9_readPacket_99
        · have e := ce_if0 e hc74
          refine lv_aload_n hx9 hb d9_readPacket_77 rfl (lv_at hl 2 rfl) ?_
          refine lv_iconst (v := (3 : Int32)) hx9 hb d9_readPacket_78 (by decide) ?_
          obtain ⟨o79, eo79, e⟩ := ce_bd e
          refine ce_callV (As := [.int (3 : Int32)]) (rest := []) C (ce_sok aK aV B0) hH (c6_refuse l D ad cA aK aV B0 C.2.2.2.2.2.2.1 F (3 : Int32)  h o79 eo79) lo_1.1 lo_1.2.choose_spec rfl rfl mc6_refuse ml_9_57 mi6_refuse ms6_refuse mI_6 (n := 1) (by decide) rfl ⟨Nat.le_of_ble_eq_true rfl, Nat.le_of_ble_eq_true rfl⟩ ⟨Nat.le_of_ble_eq_true rfl, Nat.le_of_ble_eq_true rfl⟩ hl.1 rfl (Nat.le_of_ble_eq_true rfl) d9_readPacket_79 (fun H locs hH => ?_)
          refine W.eq (g2 := F0 m 82 ls []) rfl ?_
          refine lv_goto (tgt := 99) hx9 hb d9_readPacket_82 (by decide) ?_
          exact ce_vret C (ce_sok aK aV B0) hH (Option.some.inj e) d9_readPacket_99
    · have e := ce_if0 e hc42
      refine lv_iload_n hx9 hb d9_readPacket_45 rfl (lv_at hl 3 rfl) ?_
      refine lv_aload_n hx9 hb d9_readPacket_46 rfl (lv_at hl 1 rfl) ?_
      refine gf_9_34 C hH hk0 d9_readPacket_47 ?_
      refine lv_icmp_ge (tgt := 61) hx9 hb d9_readPacket_50 (by decide) (fun hc50 => ?_) (fun hc50 => ?_)
      · have e := ce_if1 e hc50
        refine lv_aload_n hx9 hb d9_readPacket_61 rfl (lv_at hl 1 rfl) ?_
        refine gf_9_9 C hH hk0 d9_readPacket_62 ?_
        refine lv_bipush (v := (12 : Int32)) hx9 hb d9_readPacket_65 (by decide) ?_
        refine lv_icmp_ge (tgt := 77) hx9 hb d9_readPacket_67 (by decide) (fun hc67 => ?_) (fun hc67 => ?_)
        · have e := ce_if1 e hc67
          refine lv_aload_n hx9 hb d9_readPacket_77 rfl (lv_at hl 2 rfl) ?_
          refine lv_iconst (v := (3 : Int32)) hx9 hb d9_readPacket_78 (by decide) ?_
          obtain ⟨o79, eo79, e⟩ := ce_bd e
          refine ce_callV (As := [.int (3 : Int32)]) (rest := []) C (ce_sok aK aV B0) hH (c6_refuse l D ad cA aK aV B0 C.2.2.2.2.2.2.1 F (3 : Int32)  h o79 eo79) lo_1.1 lo_1.2.choose_spec rfl rfl mc6_refuse ml_9_57 mi6_refuse ms6_refuse mI_6 (n := 1) (by decide) rfl ⟨Nat.le_of_ble_eq_true rfl, Nat.le_of_ble_eq_true rfl⟩ ⟨Nat.le_of_ble_eq_true rfl, Nat.le_of_ble_eq_true rfl⟩ hl.1 rfl (Nat.le_of_ble_eq_true rfl) d9_readPacket_79 (fun H locs hH => ?_)
          refine W.eq (g2 := F0 m 82 ls []) rfl ?_
          refine lv_goto (tgt := 99) hx9 hb d9_readPacket_82 (by decide) ?_
          exact ce_vret C (ce_sok aK aV B0) hH (Option.some.inj e) d9_readPacket_99
        · have e := ce_if0 e hc67
          refine lv_aload_n hx9 hb d9_readPacket_70 rfl (lv_at hl 1 rfl) ?_
          refine gf_9_37 C hH hk0 d9_readPacket_71 ?_
          refine lv_if_eq (tgt := 85) hx9 hb d9_readPacket_74 (by decide) (fun hc74 => ?_) (fun hc74 => ?_)
          · have e := ce_if1 e hc74
            refine lv_aload_n hx9 hb d9_readPacket_85 rfl (lv_at hl 1 rfl) ?_
            refine lv_aload_n hx9 hb d9_readPacket_86 rfl (lv_at hl 2 rfl) ?_
            obtain ⟨o87, eo87, e⟩ := ce_bd e
            refine ce_callV (As := [.ref (ad 1)]) (rest := []) C (ce_sok aK aV B0) hH (c9_addPacket l D ad cA aK aV B0 C.2.2.2.2.2.2.1 F k0 hk0 h o87 eo87) (lk_Told hk0).1 (lk_Told hk0).2.choose_spec rfl rfl mc9_addPacket ml_9_69 mi9_addPacket ms9_addPacket mI_9 (n := 1) (by decide) rfl ⟨Nat.le_of_ble_eq_true rfl, Nat.le_of_ble_eq_true rfl⟩ ⟨Nat.le_of_ble_eq_true rfl, Nat.le_of_ble_eq_true rfl⟩ hl.1 rfl (Nat.le_of_ble_eq_true rfl) d9_readPacket_87 (fun H locs hH => ?_)
            refine W.eq (g2 := F0 m 90 ls []) rfl ?_
            refine lv_aload_n hx9 hb d9_readPacket_90 rfl (lv_at hl 1 rfl) ?_
            refine lv_iload_n hx9 hb d9_readPacket_91 rfl (lv_at hl 0 rfl) ?_
            obtain ⟨hz_92, e⟩ := ce_gd e
            refine pf_9_37 C hH hk0 hz_92 d9_readPacket_92 (fun H locs hH => ?_)
            obtain ⟨h_92, eh_92, e⟩ := ce_nmE e
            rw [← eh_92] at hH
            refine lv_aload_n hx9 hb d9_readPacket_95 rfl (lv_at hl 2 rfl) ?_
            obtain ⟨o96, eo96, e⟩ := ce_bd e
            refine ce_callV (As := []) (rest := []) C (ce_sok aK aV B0) hH (c6_advance l D ad cA aK aV B0 C.2.2.2.2.2.2.1 F   h_92 o96 eo96) lo_1.1 lo_1.2.choose_spec rfl rfl mc6_advance ml_9_72 mi6_advance ms6_advance mI_6 (n := 0) (by decide) rfl ⟨Nat.le_of_ble_eq_true rfl, Nat.le_of_ble_eq_true rfl⟩ ⟨Nat.le_of_ble_eq_true rfl, Nat.le_of_ble_eq_true rfl⟩ hl.1 rfl (Nat.le_of_ble_eq_true rfl) d9_readPacket_96 (fun H locs hH => ?_)
            refine W.eq (g2 := F0 m 99 ls []) rfl ?_
            exact ce_vret C (ce_sok aK aV B0) hH (Option.some.inj e) d9_readPacket_99
          · have e := ce_if0 e hc74
            refine lv_aload_n hx9 hb d9_readPacket_77 rfl (lv_at hl 2 rfl) ?_
            refine lv_iconst (v := (3 : Int32)) hx9 hb d9_readPacket_78 (by decide) ?_
            obtain ⟨o79, eo79, e⟩ := ce_bd e
            refine ce_callV (As := [.int (3 : Int32)]) (rest := []) C (ce_sok aK aV B0) hH (c6_refuse l D ad cA aK aV B0 C.2.2.2.2.2.2.1 F (3 : Int32)  h o79 eo79) lo_1.1 lo_1.2.choose_spec rfl rfl mc6_refuse ml_9_57 mi6_refuse ms6_refuse mI_6 (n := 1) (by decide) rfl ⟨Nat.le_of_ble_eq_true rfl, Nat.le_of_ble_eq_true rfl⟩ ⟨Nat.le_of_ble_eq_true rfl, Nat.le_of_ble_eq_true rfl⟩ hl.1 rfl (Nat.le_of_ble_eq_true rfl) d9_readPacket_79 (fun H locs hH => ?_)
            refine W.eq (g2 := F0 m 82 ls []) rfl ?_
            refine lv_goto (tgt := 99) hx9 hb d9_readPacket_82 (by decide) ?_
            exact ce_vret C (ce_sok aK aV B0) hH (Option.some.inj e) d9_readPacket_99
      · have e := ce_if0 e hc50
        refine lv_aload_n hx9 hb d9_readPacket_53 rfl (lv_at hl 2 rfl) ?_
        refine lv_iconst (v := (2 : Int32)) hx9 hb d9_readPacket_54 (by decide) ?_
        obtain ⟨o55, eo55, e⟩ := ce_bd e
        refine ce_callV (As := [.int (2 : Int32)]) (rest := []) C (ce_sok aK aV B0) hH (c6_refuse l D ad cA aK aV B0 C.2.2.2.2.2.2.1 F (2 : Int32)  h o55 eo55) lo_1.1 lo_1.2.choose_spec rfl rfl mc6_refuse ml_9_57 mi6_refuse ms6_refuse mI_6 (n := 1) (by decide) rfl ⟨Nat.le_of_ble_eq_true rfl, Nat.le_of_ble_eq_true rfl⟩ ⟨Nat.le_of_ble_eq_true rfl, Nat.le_of_ble_eq_true rfl⟩ hl.1 rfl (Nat.le_of_ble_eq_true rfl) d9_readPacket_55 (fun H locs hH => ?_)
        refine W.eq (g2 := F0 m 58 ls []) rfl ?_
        refine lv_goto (tgt := 99) hx9 hb d9_readPacket_58 (by decide) ?_
        exact ce_vret C (ce_sok aK aV B0) hH (Option.some.inj e) d9_readPacket_99
def f9_readPacket (F : Nat) (k0 : Nat) (h : Hp) : Option (Hp) :=
  Option.bind (f9_isPacketHere F  h) (fun o1 =>
    if o1.1 = 0 then
      Option.bind (f6_refuse F (1 : Int32) o1.2) (fun o9 =>
        some o9)
    else
      Option.bind (f9_lettersHere F (2 : Int32) o1.2) (fun o15 =>
        Option.bind (f9_lettersHere F (1 : Int32) o15.2) (fun o21 =>
          if o21.1 = 0 then
            f9_readPacket_j32 F k0 o15.1 (1 : Int32) o21.2
          else
            f9_readPacket_j32 F k0 o15.1 (0 : Int32) o21.2)))
set_option maxRecDepth 20000 in
theorem c9_readPacket (l : Launch) (D : va_G) (ad : Nat → Nat) (cA : Nat → ClassId) (aK aV : Nat → Nat) (B0 : Nat) (hA : ce_Ad ad B0) (F : Nat) (k0 : Nat) (hk0 : ce_isTold k0) (h : Hp) (r : Hp) (e : f9_readPacket F k0 h = some r) : ce_Ct l D ad cA B0 (ce_St aK aV B0) y9_readPacket b9_readPacket 4 none 3 66 0 0 [.ref (ad k0), .ref (ad 1)] h none r := by
  refine ce_enter hA (by decide) rfl (Nat.le_of_ble_eq_true rfl) (fun p e0 s m below meth c ls C hH hl => ?_)
  have hl : lv_has ls 4 [(0, .ref (ad k0)), (1, .ref (ad 1))] := hl
  have hx := C.1
  have hb := C.2.1
  have e : Option.bind _ some = some r := (congrArg (fun z => Option.bind z some) e).trans rfl
  unfold f9_readPacket at e
  refine lv_aload_n hx hb d9_readPacket_0 rfl (lv_at hl 1 rfl) ?_
  obtain ⟨o1, eo1, e⟩ := ce_bd e
  refine ce_callS (As := [.ref (ad 1)]) (rest := []) C (ce_sok aK aV B0) hH (c9_isPacketHere l D ad cA aK aV B0 C.2.2.2.2.2.2.1 F   h o1 eo1) mc9_isPacketHere ml_9_61 mt9_isPacketHere mI_9 (n := 1) (by decide) rfl ⟨Nat.le_of_ble_eq_true rfl, Nat.le_of_ble_eq_true rfl⟩ ⟨Nat.le_of_ble_eq_true rfl, Nat.le_of_ble_eq_true rfl⟩ hl.1 rfl (Nat.le_of_ble_eq_true rfl) d9_readPacket_1 (fun H locs hH => ?_)
  refine W.eq (g2 := F0 m 4 ls [.int o1.1]) rfl ?_
  refine lv_if_ne (tgt := 13) hx hb d9_readPacket_4 (by decide) (fun hc4 => ?_) (fun hc4 => ?_)
  · have e := ce_if0 e hc4
    refine lv_aload_n hx hb d9_readPacket_13 rfl (lv_at hl 1 rfl) ?_
    refine lv_iconst (v := (2 : Int32)) hx hb d9_readPacket_14 (by decide) ?_
    obtain ⟨o15, eo15, e⟩ := ce_bd e
    refine ce_callS (As := [.ref (ad 1), .int (2 : Int32)]) (rest := []) C (ce_sok aK aV B0) hH (c9_lettersHere l D ad cA aK aV B0 C.2.2.2.2.2.2.1 F (2 : Int32)  o1.2 o15 eo15) mc9_lettersHere ml_9_65 mt9_lettersHere mI_9 (n := 2) (by decide) rfl ⟨Nat.le_of_ble_eq_true rfl, Nat.le_of_ble_eq_true rfl⟩ ⟨Nat.le_of_ble_eq_true rfl, Nat.le_of_ble_eq_true rfl⟩ hl.1 rfl (Nat.le_of_ble_eq_true rfl) d9_readPacket_15 (fun H locs hH => ?_)
    refine W.eq (g2 := F0 m 18 ls [.int o15.1]) rfl ?_
    refine lv_istore_n (lv' := [(2, .int o15.1), (0, .ref (ad k0)), (1, .ref (ad 1))]) hx hb d9_readPacket_18 rfl hl (by decide) rfl (fun ls hl => ?_)
    refine lv_aload_n hx hb d9_readPacket_19 rfl (lv_at hl 2 rfl) ?_
    refine lv_iconst (v := (1 : Int32)) hx hb d9_readPacket_20 (by decide) ?_
    obtain ⟨o21, eo21, e⟩ := ce_bd e
    refine ce_callS (As := [.ref (ad 1), .int (1 : Int32)]) (rest := []) C (ce_sok aK aV B0) hH (c9_lettersHere l D ad cA aK aV B0 C.2.2.2.2.2.2.1 F (1 : Int32)  o15.2 o21 eo21) mc9_lettersHere ml_9_65 mt9_lettersHere mI_9 (n := 2) (by decide) rfl ⟨Nat.le_of_ble_eq_true rfl, Nat.le_of_ble_eq_true rfl⟩ ⟨Nat.le_of_ble_eq_true rfl, Nat.le_of_ble_eq_true rfl⟩ hl.1 rfl (Nat.le_of_ble_eq_true rfl) d9_readPacket_21 (fun H locs hH => ?_)
    refine W.eq (g2 := F0 m 24 ls [.int o21.1]) rfl ?_
    refine lv_if_ne (tgt := 31) hx hb d9_readPacket_24 (by decide) (fun hc24 => ?_) (fun hc24 => ?_)
    · have e := ce_if0 e hc24
      refine lv_iconst (v := (0 : Int32)) hx hb d9_readPacket_31 (by decide) ?_
      exact j9_readPacket_32 C F k0 o15.1 (0 : Int32) hk0 r o21.2 _ _ _ hH (lv_sub hl [1, 2, 0] rfl) e
    · have e := ce_if1 e hc24
      refine lv_iconst (v := (1 : Int32)) hx hb d9_readPacket_27 (by decide) ?_
      refine lv_goto (tgt := 32) hx hb d9_readPacket_28 (by decide) ?_
      exact j9_readPacket_32 C F k0 o15.1 (1 : Int32) hk0 r o21.2 _ _ _ hH (lv_sub hl [1, 2, 0] rfl) e
  · have e := ce_if1 e hc4
    refine lv_aload_n hx hb d9_readPacket_7 rfl (lv_at hl 1 rfl) ?_
    refine lv_iconst (v := (1 : Int32)) hx hb d9_readPacket_8 (by decide) ?_
    obtain ⟨o9, eo9, e⟩ := ce_bd e
    refine ce_callV (As := [.int (1 : Int32)]) (rest := []) C (ce_sok aK aV B0) hH (c6_refuse l D ad cA aK aV B0 C.2.2.2.2.2.2.1 F (1 : Int32)  o1.2 o9 eo9) lo_1.1 lo_1.2.choose_spec rfl rfl mc6_refuse ml_9_57 mi6_refuse ms6_refuse mI_6 (n := 1) (by decide) rfl ⟨Nat.le_of_ble_eq_true rfl, Nat.le_of_ble_eq_true rfl⟩ ⟨Nat.le_of_ble_eq_true rfl, Nat.le_of_ble_eq_true rfl⟩ hl.1 rfl (Nat.le_of_ble_eq_true rfl) d9_readPacket_9 (fun H locs hH => ?_)
    refine W.eq (g2 := F0 m 12 ls []) rfl ?_
    exact ce_vret C (ce_sok aK aV B0) hH (Option.some.inj e) d9_readPacket_12
abbrev b9_read : ByteArray := prog_11_method_2_code
def y9_read : MethodName := ⟨cn_9, "read", "(LCableElection$Reading;)V"⟩
theorem d9_read_0 : decode b9_read 0 = .ok (.aload_n 0, 1) := by decide +kernel
theorem d9_read_1 : decode b9_read 1 = .ok (.iconst 0, 1) := by decide +kernel
theorem d9_read_2 : decode b9_read 2 = .ok (.putfield 9, 3) := by decide +kernel
theorem d9_read_5 : decode b9_read 5 = .ok (.aload_n 0, 1) := by decide +kernel
theorem d9_read_6 : decode b9_read 6 = .ok (.iconst 0, 1) := by decide +kernel
theorem d9_read_7 : decode b9_read 7 = .ok (.putfield 34, 3) := by decide +kernel
theorem d9_read_10 : decode b9_read 10 = .ok (.aload_n 0, 1) := by decide +kernel
theorem d9_read_11 : decode b9_read 11 = .ok (.iconst 0, 1) := by decide +kernel
theorem d9_read_12 : decode b9_read 12 = .ok (.putfield 37, 3) := by decide +kernel
theorem d9_read_15 : decode b9_read 15 = .ok (.aload_n 1, 1) := by decide +kernel
theorem d9_read_16 : decode b9_read 16 = .ok (.invokevirtual 41, 3) := by decide +kernel
theorem d9_read_19 : decode b9_read 19 = .ok (.iconst 0, 1) := by decide +kernel
theorem d9_read_20 : decode b9_read 20 = .ok (.istore_n 2, 1) := by decide +kernel
theorem d9_read_21 : decode b9_read 21 = .ok (.iload_n 2, 1) := by decide +kernel
theorem d9_read_22 : decode b9_read 22 = .ok (.sipush 700, 3) := by decide +kernel
theorem d9_read_25 : decode b9_read 25 = .ok (.if_icmp .ge 25, 3) := by decide +kernel
theorem d9_read_28 : decode b9_read 28 = .ok (.aload_n 1, 1) := by decide +kernel
theorem d9_read_29 : decode b9_read 29 = .ok (.invokevirtual 46, 3) := by decide +kernel
theorem d9_read_32 : decode b9_read 32 = .ok (.ifCond .eq 18, 3) := by decide +kernel
theorem d9_read_35 : decode b9_read 35 = .ok (.aload_n 0, 1) := by decide +kernel
theorem d9_read_36 : decode b9_read 36 = .ok (.aload_n 1, 1) := by decide +kernel
theorem d9_read_37 : decode b9_read 37 = .ok (.invokevirtual 50, 3) := by decide +kernel
theorem d9_read_40 : decode b9_read 40 = .ok (.aload_n 1, 1) := by decide +kernel
theorem d9_read_41 : decode b9_read 41 = .ok (.invokevirtual 54, 3) := by decide +kernel
theorem d9_read_44 : decode b9_read 44 = .ok (.iinc 2 1, 3) := by decide +kernel
theorem d9_read_47 : decode b9_read 47 = .ok (.goto (-26), 3) := by decide +kernel
theorem d9_read_50 : decode b9_read 50 = .ok (.aload_n 0, 1) := by decide +kernel
theorem d9_read_51 : decode b9_read 51 = .ok (.getfield 9, 3) := by decide +kernel
theorem d9_read_54 : decode b9_read 54 = .ok (.ifCond .le 15, 3) := by decide +kernel
theorem d9_read_57 : decode b9_read 57 = .ok (.aload_n 0, 1) := by decide +kernel
theorem d9_read_58 : decode b9_read 58 = .ok (.getfield 37, 3) := by decide +kernel
theorem d9_read_61 : decode b9_read 61 = .ok (.ifCond .ne 8, 3) := by decide +kernel
theorem d9_read_64 : decode b9_read 64 = .ok (.aload_n 1, 1) := by decide +kernel
theorem d9_read_65 : decode b9_read 65 = .ok (.iconst 4, 1) := by decide +kernel
theorem d9_read_66 : decode b9_read 66 = .ok (.invokevirtual 57, 3) := by decide +kernel
theorem d9_read_69 : decode b9_read 69 = .ok (.return_, 1) := by decide +kernel
theorem mc6_takeSign : Cond.code y6_takeSign b6_takeSign 1 none ∈ ce_cm := ce_cm_of (List.mem_of_getElem? (i := 687) (by decide +kernel)) (by decide +kernel)
theorem ml_9_54 : Cond.methodLink cn_9 54 y6_takeSign ∈ ce_cm := ce_cm_of (List.mem_of_getElem? (i := 979) (by decide +kernel)) (by decide +kernel)
theorem mi6_takeSign : Cond.instanceMethod y6_takeSign ∈ ce_cm := ce_cm_of (List.mem_of_getElem? (i := 685) (by decide +kernel)) (by decide +kernel)
theorem ms6_takeSign : Cond.selects cn_6 y6_takeSign y6_takeSign ∈ ce_cm := ce_cm_of (List.mem_of_getElem? (i := 686) (by decide +kernel)) (by decide +kernel)
theorem mc9_readPacket : Cond.code y9_readPacket b9_readPacket 4 none ∈ ce_cm := ce_cm_of (List.mem_of_getElem? (i := 957) (by decide +kernel)) (by decide +kernel)
theorem ml_9_50 : Cond.methodLink cn_9 50 y9_readPacket ∈ ce_cm := ce_cm_of (List.mem_of_getElem? (i := 954) (by decide +kernel)) (by decide +kernel)
theorem mi9_readPacket : Cond.instanceMethod y9_readPacket ∈ ce_cm := ce_cm_of (List.mem_of_getElem? (i := 956) (by decide +kernel)) (by decide +kernel)
theorem ms9_readPacket : Cond.selects cn_9 y9_readPacket y9_readPacket ∈ ce_cm := ce_cm_of (List.mem_of_getElem? (i := 24) (by decide +kernel)) (by decide +kernel)
theorem mc6_goesOn : Cond.code y6_goesOn b6_goesOn 1 (some .boolean) ∈ ce_cm := ce_cm_of (List.mem_of_getElem? (i := 522) (by decide +kernel)) (by decide +kernel)
theorem ml_9_46 : Cond.methodLink cn_9 46 y6_goesOn ∈ ce_cm := ce_cm_of (List.mem_of_getElem? (i := 953) (by decide +kernel)) (by decide +kernel)
theorem mi6_goesOn : Cond.instanceMethod y6_goesOn ∈ ce_cm := ce_cm_of (List.mem_of_getElem? (i := 520) (by decide +kernel)) (by decide +kernel)
theorem ms6_goesOn : Cond.selects cn_6 y6_goesOn y6_goesOn ∈ ce_cm := ce_cm_of (List.mem_of_getElem? (i := 521) (by decide +kernel)) (by decide +kernel)
theorem mc6_begin : Cond.code y6_begin b6_begin 1 none ∈ ce_cm := ce_cm_of (List.mem_of_getElem? (i := 504) (by decide +kernel)) (by decide +kernel)
theorem ml_9_41 : Cond.methodLink cn_9 41 y6_begin ∈ ce_cm := ce_cm_of (List.mem_of_getElem? (i := 952) (by decide +kernel)) (by decide +kernel)
theorem mi6_begin : Cond.instanceMethod y6_begin ∈ ce_cm := ce_cm_of (List.mem_of_getElem? (i := 502) (by decide +kernel)) (by decide +kernel)
theorem ms6_begin : Cond.selects cn_6 y6_begin y6_begin ∈ ce_cm := ce_cm_of (List.mem_of_getElem? (i := 503) (by decide +kernel)) (by decide +kernel)
def f9_read_b21 (F : Nat) (k0 : Nat) (x2 : Int32) (h : Hp) : Option ((Int32 × Hp) ⊕ (Hp)) :=
  if (700 : Int32) ≤ x2 then
    some (.inr h)
  else
    Option.bind (f6_goesOn F  h) (fun o29 =>
      if o29.1 = 0 then
        some (.inr o29.2)
      else
        Option.bind (f9_readPacket F k0 o29.2) (fun o37 =>
          Option.bind (f6_takeSign F  o37) (fun o41 =>
            some (.inl (x2 + (1 : Int32), o41)))))
set_option maxRecDepth 20000 in
theorem l9_read_21 (C : ce_Cx p s m args c meth b9_read 3 none cn_9 D ad cA B0 (ce_St aK aV B0)) (F : Nat) (k0 : Nat) (hk0 : ce_isTold k0) (r : Hp) (g : (Hp) → Option (Hp)) (hx : ∀  (h : Hp) (H : Heap) (locs : List Loc) (ls : Array Slot), ce_H D ad cA B0 [] s h H locs → lv_has ls 3 [(0, .ref (ad k0)), (1, .ref (ad 1))] → g h = some r → W p l e0 { frames := 4, cells := 0, slots := 0, locals := 89 } s m args below meth c H locs 0 0 (MQ below (ce_Q D ad cA B0 (ce_St aK aV B0) none r) args s 0 0 (fun q => B0 ≤ q)) (F0 m 50 ls [])) : ∀ (n : Nat) (x2 : Int32) (h : Hp) (H : Heap) (locs : List Loc) (ls : Array Slot), ce_H D ad cA B0 [] s h H locs → lv_has ls 3 [(0, .ref (ad k0)), (1, .ref (ad 1)), (2, .int x2)] → Option.bind (ce_it (fun (st : Int32 × Hp) => f9_read_b21 F k0 st.1 st.2) n (x2, h)) g = some r → W p l e0 { frames := 4, cells := 0, slots := 0, locals := 89 } s m args below meth c H locs 0 0 (MQ below (ce_Q D ad cA B0 (ce_St aK aV B0) none r) args s 0 0 (fun q => B0 ≤ q)) (F0 m 21 ls []) := by
  intro n
  induction n with
  | zero =>
    intro x2 h H locs ls hH hl e
    exact absurd e (fun z => by cases z)
  | succ n ih =>
    intro x2 h H locs ls hH hl e
    have hx9 := C.1
    have hb := C.2.1
    have e : Option.bind (f9_read_b21 F k0 x2 h) _ = some r := ce_it_bd e
    unfold f9_read_b21 at e
    refine lv_iload_n hx9 hb d9_read_21 rfl (lv_at hl 2 rfl) ?_
    refine lv_sipush (v := (700 : Int32)) hx9 hb d9_read_22 (by decide) ?_
    refine lv_icmp_ge (tgt := 50) hx9 hb d9_read_25 (by decide) (fun hc25 => ?_) (fun hc25 => ?_)
    · have e := ce_if1 e hc25
      exact hx  h _ _ _ hH (lv_sub hl [0, 1] rfl) e
    · have e := ce_if0 e hc25
      refine lv_aload_n hx9 hb d9_read_28 rfl (lv_at hl 1 rfl) ?_
      obtain ⟨o29, eo29, e⟩ := ce_bd e
      refine ce_callV (As := []) (rest := []) C (ce_sok aK aV B0) hH (c6_goesOn l D ad cA aK aV B0 C.2.2.2.2.2.2.1 F   h o29 eo29) lo_1.1 lo_1.2.choose_spec rfl rfl mc6_goesOn ml_9_46 mi6_goesOn ms6_goesOn mI_6 (n := 0) (by decide) rfl ⟨Nat.le_of_ble_eq_true rfl, Nat.le_of_ble_eq_true rfl⟩ ⟨Nat.le_of_ble_eq_true rfl, Nat.le_of_ble_eq_true rfl⟩ hl.1 rfl (Nat.le_of_ble_eq_true rfl) d9_read_29 (fun H locs hH => ?_)
      refine W.eq (g2 := F0 m 32 ls [.int o29.1]) rfl ?_
      refine lv_if_eq (tgt := 50) hx9 hb d9_read_32 (by decide) (fun hc32 => ?_) (fun hc32 => ?_)
      · have e := ce_if1 e hc32
        exact hx  o29.2 _ _ _ hH (lv_sub hl [0, 1] rfl) e
      · have e := ce_if0 e hc32
        refine lv_aload_n hx9 hb d9_read_35 rfl (lv_at hl 0 rfl) ?_
        refine lv_aload_n hx9 hb d9_read_36 rfl (lv_at hl 1 rfl) ?_
        obtain ⟨o37, eo37, e⟩ := ce_bd e
        refine ce_callV (As := [.ref (ad 1)]) (rest := []) C (ce_sok aK aV B0) hH (c9_readPacket l D ad cA aK aV B0 C.2.2.2.2.2.2.1 F k0 hk0 o29.2 o37 eo37) (lk_Told hk0).1 (lk_Told hk0).2.choose_spec rfl rfl mc9_readPacket ml_9_50 mi9_readPacket ms9_readPacket mI_9 (n := 1) (by decide) rfl ⟨Nat.le_of_ble_eq_true rfl, Nat.le_of_ble_eq_true rfl⟩ ⟨Nat.le_of_ble_eq_true rfl, Nat.le_of_ble_eq_true rfl⟩ hl.1 rfl (Nat.le_of_ble_eq_true rfl) d9_read_37 (fun H locs hH => ?_)
        refine W.eq (g2 := F0 m 40 ls []) rfl ?_
        refine lv_aload_n hx9 hb d9_read_40 rfl (lv_at hl 1 rfl) ?_
        obtain ⟨o41, eo41, e⟩ := ce_bd e
        refine ce_callV (As := []) (rest := []) C (ce_sok aK aV B0) hH (c6_takeSign l D ad cA aK aV B0 C.2.2.2.2.2.2.1 F   o37 o41 eo41) lo_1.1 lo_1.2.choose_spec rfl rfl mc6_takeSign ml_9_54 mi6_takeSign ms6_takeSign mI_6 (n := 0) (by decide) rfl ⟨Nat.le_of_ble_eq_true rfl, Nat.le_of_ble_eq_true rfl⟩ ⟨Nat.le_of_ble_eq_true rfl, Nat.le_of_ble_eq_true rfl⟩ hl.1 rfl (Nat.le_of_ble_eq_true rfl) d9_read_41 (fun H locs hH => ?_)
        refine W.eq (g2 := F0 m 44 ls []) rfl ?_
        refine lv_iinc (v := x2 + (1 : Int32)) (lv' := [(2, .int (x2 + (1 : Int32))), (0, .ref (ad k0)), (1, .ref (ad 1))]) hx9 hb d9_read_44 hl (k := 2) rfl rfl (by decide) rfl (fun ls hl => ?_)
        refine lv_goto (tgt := 21) hx9 hb d9_read_47 (by decide) ?_
        exact ih (x2 + (1 : Int32)) o41 _ _ _ hH (lv_sub hl [1, 2, 0] rfl) e
def f9_read (F : Nat) (k0 : Nat) (h : Hp) : Option (Hp) :=
  ce_nm (hp_up h k0 0 (0 : Int32)) (fun h_2 =>
    ce_nm (hp_up h_2 k0 7 (0 : Int32)) (fun h_7 =>
      ce_nm (hp_up h_7 k0 8 (0 : Int32)) (fun h_12 =>
        Option.bind (f6_begin F  h_12) (fun o16 =>
          Option.bind (ce_it (fun (st : Int32 × Hp) => f9_read_b21 F k0 st.1 st.2) F ((0 : Int32), o16)) (fun o21 =>
            if (o21 k0 0) ≤ 0 then
              some o21
            else
              if (o21 k0 8) = 0 then
                Option.bind (f6_refuse F (4 : Int32) o21) (fun o66 =>
                  some o66)
              else
                some o21)))))
set_option maxRecDepth 20000 in
theorem c9_read (l : Launch) (D : va_G) (ad : Nat → Nat) (cA : Nat → ClassId) (aK aV : Nat → Nat) (B0 : Nat) (hA : ce_Ad ad B0) (F : Nat) (k0 : Nat) (hk0 : ce_isTold k0) (h : Hp) (r : Hp) (e : f9_read F k0 h = some r) : ce_Ct l D ad cA B0 (ce_St aK aV B0) y9_read b9_read 3 none 4 89 0 0 [.ref (ad k0), .ref (ad 1)] h none r := by
  refine ce_enter hA (by decide) rfl (Nat.le_of_ble_eq_true rfl) (fun p e0 s m below meth c ls C hH hl => ?_)
  have hl : lv_has ls 3 [(0, .ref (ad k0)), (1, .ref (ad 1))] := hl
  have hx := C.1
  have hb := C.2.1
  have e : Option.bind _ some = some r := (congrArg (fun z => Option.bind z some) e).trans rfl
  unfold f9_read at e
  refine lv_aload_n hx hb d9_read_0 rfl (lv_at hl 0 rfl) ?_
  refine lv_iconst (v := (0 : Int32)) hx hb d9_read_1 (by decide) ?_
  refine pf_9_9 C hH hk0 d9_read_2 (fun H locs hH => ?_)
  obtain ⟨h_2, eh_2, e⟩ := ce_nmE e
  rw [← eh_2] at hH
  refine lv_aload_n hx hb d9_read_5 rfl (lv_at hl 0 rfl) ?_
  refine lv_iconst (v := (0 : Int32)) hx hb d9_read_6 (by decide) ?_
  refine pf_9_34 C hH hk0 d9_read_7 (fun H locs hH => ?_)
  obtain ⟨h_7, eh_7, e⟩ := ce_nmE e
  rw [← eh_7] at hH
  refine lv_aload_n hx hb d9_read_10 rfl (lv_at hl 0 rfl) ?_
  refine lv_iconst (v := (0 : Int32)) hx hb d9_read_11 (by decide) ?_
  refine pf_9_37 C hH hk0 (Or.inl rfl) d9_read_12 (fun H locs hH => ?_)
  obtain ⟨h_12, eh_12, e⟩ := ce_nmE e
  rw [← eh_12] at hH
  refine lv_aload_n hx hb d9_read_15 rfl (lv_at hl 1 rfl) ?_
  obtain ⟨o16, eo16, e⟩ := ce_bd e
  refine ce_callV (As := []) (rest := []) C (ce_sok aK aV B0) hH (c6_begin l D ad cA aK aV B0 C.2.2.2.2.2.2.1 F   h_12 o16 eo16) lo_1.1 lo_1.2.choose_spec rfl rfl mc6_begin ml_9_41 mi6_begin ms6_begin mI_6 (n := 0) (by decide) rfl ⟨Nat.le_of_ble_eq_true rfl, Nat.le_of_ble_eq_true rfl⟩ ⟨Nat.le_of_ble_eq_true rfl, Nat.le_of_ble_eq_true rfl⟩ hl.1 rfl (Nat.le_of_ble_eq_true rfl) d9_read_16 (fun H locs hH => ?_)
  refine W.eq (g2 := F0 m 19 ls []) rfl ?_
  refine lv_iconst (v := (0 : Int32)) hx hb d9_read_19 (by decide) ?_
  refine lv_istore_n (lv' := [(2, .int (0 : Int32)), (0, .ref (ad k0)), (1, .ref (ad 1))]) hx hb d9_read_20 rfl hl (by decide) rfl (fun ls hl => ?_)
  refine l9_read_21 C F k0 hk0 r _ (fun  h_21 H locs ls hH hl e => ?_) F (0 : Int32) o16 _ _ _ hH (lv_sub hl [1, 2, 0] rfl) (ce_as e)
  try dsimp only at e
  refine lv_aload_n hx hb d9_read_50 rfl (lv_at hl 0 rfl) ?_
  refine gf_9_9 C hH hk0 d9_read_51 ?_
  refine lv_if_le (tgt := 69) hx hb d9_read_54 (by decide) (fun hc54 => ?_) (fun hc54 => ?_)
  · have e := ce_if1 e hc54
    exact ce_vret C (ce_sok aK aV B0) hH (Option.some.inj e) d9_read_69
  · have e := ce_if0 e hc54
    refine lv_aload_n hx hb d9_read_57 rfl (lv_at hl 0 rfl) ?_
    refine gf_9_37 C hH hk0 d9_read_58 ?_
    refine lv_if_ne (tgt := 69) hx hb d9_read_61 (by decide) (fun hc61 => ?_) (fun hc61 => ?_)
    · have e := ce_if0 e hc61
      exact ce_vret C (ce_sok aK aV B0) hH (Option.some.inj e) d9_read_69
    · have e := ce_if1 e hc61
      refine lv_aload_n hx hb d9_read_64 rfl (lv_at hl 1 rfl) ?_
      refine lv_iconst (v := (4 : Int32)) hx hb d9_read_65 (by decide) ?_
      obtain ⟨o66, eo66, e⟩ := ce_bd e
      refine ce_callV (As := [.int (4 : Int32)]) (rest := []) C (ce_sok aK aV B0) hH (c6_refuse l D ad cA aK aV B0 C.2.2.2.2.2.2.1 F (4 : Int32)  h_21 o66 eo66) lo_1.1 lo_1.2.choose_spec rfl rfl mc6_refuse ml_9_57 mi6_refuse ms6_refuse mI_6 (n := 1) (by decide) rfl ⟨Nat.le_of_ble_eq_true rfl, Nat.le_of_ble_eq_true rfl⟩ ⟨Nat.le_of_ble_eq_true rfl, Nat.le_of_ble_eq_true rfl⟩ hl.1 rfl (Nat.le_of_ble_eq_true rfl) d9_read_66 (fun H locs hH => ?_)
      refine W.eq (g2 := F0 m 69 ls []) rfl ?_
      exact ce_vret C (ce_sok aK aV B0) hH (Option.some.inj e) d9_read_69
abbrev b9_letterAt : ByteArray := prog_11_method_9_code
def y9_letterAt : MethodName := ⟨cn_9, "letterAt", "(II)I"⟩
theorem d9_letterAt_0 : decode b9_letterAt 0 = .ok (.iload_n 1, 1) := by decide +kernel
theorem d9_letterAt_1 : decode b9_letterAt 1 = .ok (.ifCond .lt 25, 3) := by decide +kernel
theorem d9_letterAt_4 : decode b9_letterAt 4 = .ok (.iload_n 1, 1) := by decide +kernel
theorem d9_letterAt_5 : decode b9_letterAt 5 = .ok (.aload_n 0, 1) := by decide +kernel
theorem d9_letterAt_6 : decode b9_letterAt 6 = .ok (.getfield 9, 3) := by decide +kernel
theorem d9_letterAt_9 : decode b9_letterAt 9 = .ok (.if_icmp .ge 17, 3) := by decide +kernel
theorem d9_letterAt_12 : decode b9_letterAt 12 = .ok (.iload_n 2, 1) := by decide +kernel
theorem d9_letterAt_13 : decode b9_letterAt 13 = .ok (.ifCond .lt 13, 3) := by decide +kernel
theorem d9_letterAt_16 : decode b9_letterAt 16 = .ok (.iload_n 2, 1) := by decide +kernel
theorem d9_letterAt_17 : decode b9_letterAt 17 = .ok (.aload_n 0, 1) := by decide +kernel
theorem d9_letterAt_18 : decode b9_letterAt 18 = .ok (.getfield 25, 3) := by decide +kernel
theorem d9_letterAt_21 : decode b9_letterAt 21 = .ok (.iload_n 1, 1) := by decide +kernel
theorem d9_letterAt_22 : decode b9_letterAt 22 = .ok (.iaload, 1) := by decide +kernel
theorem d9_letterAt_23 : decode b9_letterAt 23 = .ok (.if_icmp .lt 5, 3) := by decide +kernel
theorem d9_letterAt_26 : decode b9_letterAt 26 = .ok (.iconst (-1), 1) := by decide +kernel
theorem d9_letterAt_27 : decode b9_letterAt 27 = .ok (.ireturn, 1) := by decide +kernel
theorem d9_letterAt_28 : decode b9_letterAt 28 = .ok (.aload_n 0, 1) := by decide +kernel
theorem d9_letterAt_29 : decode b9_letterAt 29 = .ok (.getfield 28, 3) := by decide +kernel
theorem d9_letterAt_32 : decode b9_letterAt 32 = .ok (.iload_n 1, 1) := by decide +kernel
theorem d9_letterAt_33 : decode b9_letterAt 33 = .ok (.iconst 4, 1) := by decide +kernel
theorem d9_letterAt_34 : decode b9_letterAt 34 = .ok (.imul, 1) := by decide +kernel
theorem d9_letterAt_35 : decode b9_letterAt 35 = .ok (.iload_n 2, 1) := by decide +kernel
theorem d9_letterAt_36 : decode b9_letterAt 36 = .ok (.iadd, 1) := by decide +kernel
theorem d9_letterAt_37 : decode b9_letterAt 37 = .ok (.iaload, 1) := by decide +kernel
theorem d9_letterAt_38 : decode b9_letterAt 38 = .ok (.ireturn, 1) := by decide +kernel
def f9_letterAt (F : Nat) (k0 : Nat) (x1 : Int32) (x2 : Int32) (h : Hp) : Option (Int32 × Hp) :=
  if x1 < 0 then
    some ((-1 : Int32), h)
  else
    if (h k0 0) ≤ x1 then
      some ((-1 : Int32), h)
    else
      if x2 < 0 then
        some ((-1 : Int32), h)
      else
        if ce_in x1 12 = true then
          if x2 < (h (k0 + 4) (x1).toNatClampNeg) then
            if ce_in ((x1 * (4 : Int32)) + x2) 48 = true then
              some (h (k0 + 5) (((x1 * (4 : Int32)) + x2)).toNatClampNeg, h)
            else none
          else
            some ((-1 : Int32), h)
        else none
set_option maxRecDepth 20000 in
theorem c9_letterAt (l : Launch) (D : va_G) (ad : Nat → Nat) (cA : Nat → ClassId) (aK aV : Nat → Nat) (B0 : Nat) (hA : ce_Ad ad B0) (F : Nat) (k0 : Nat) (x1 : Int32) (x2 : Int32) (hk0 : ce_isTold k0) (h : Hp) (r : Int32 × Hp) (e : f9_letterAt F k0 x1 x2 h = some r) : ce_Ct l D ad cA B0 (ce_St aK aV B0) y9_letterAt b9_letterAt 3 (some .int) 0 0 0 0 [.ref (ad k0), .int x1, .int x2] h (some (.int r.1)) r.2 := by
  refine ce_enter hA (by decide) rfl (Nat.le_of_ble_eq_true rfl) (fun p e0 s m below meth c ls C hH hl => ?_)
  have hl : lv_has ls 3 [(0, .ref (ad k0)), (1, .int x1), (2, .int x2)] := hl
  have hx := C.1
  have hb := C.2.1
  have e : Option.bind _ some = some r := (congrArg (fun z => Option.bind z some) e).trans rfl
  unfold f9_letterAt at e
  refine lv_iload_n hx hb d9_letterAt_0 rfl (lv_at hl 1 rfl) ?_
  refine lv_if_lt (tgt := 26) hx hb d9_letterAt_1 (by decide) (fun hc1 => ?_) (fun hc1 => ?_)
  · have e := ce_if1 e hc1
    refine lv_iconst (v := (-1 : Int32)) hx hb d9_letterAt_26 (by decide) ?_
    exact ce_iretE C (ce_sok aK aV B0) hH e d9_letterAt_27
  · have e := ce_if0 e hc1
    refine lv_iload_n hx hb d9_letterAt_4 rfl (lv_at hl 1 rfl) ?_
    refine lv_aload_n hx hb d9_letterAt_5 rfl (lv_at hl 0 rfl) ?_
    refine gf_9_9 C hH hk0 d9_letterAt_6 ?_
    refine lv_icmp_ge (tgt := 26) hx hb d9_letterAt_9 (by decide) (fun hc9 => ?_) (fun hc9 => ?_)
    · have e := ce_if1 e hc9
      refine lv_iconst (v := (-1 : Int32)) hx hb d9_letterAt_26 (by decide) ?_
      exact ce_iretE C (ce_sok aK aV B0) hH e d9_letterAt_27
    · have e := ce_if0 e hc9
      refine lv_iload_n hx hb d9_letterAt_12 rfl (lv_at hl 2 rfl) ?_
      refine lv_if_lt (tgt := 26) hx hb d9_letterAt_13 (by decide) (fun hc13 => ?_) (fun hc13 => ?_)
      · have e := ce_if1 e hc13
        refine lv_iconst (v := (-1 : Int32)) hx hb d9_letterAt_26 (by decide) ?_
        exact ce_iretE C (ce_sok aK aV B0) hH e d9_letterAt_27
      · have e := ce_if0 e hc13
        refine lv_iload_n hx hb d9_letterAt_16 rfl (lv_at hl 2 rfl) ?_
        refine lv_aload_n hx hb d9_letterAt_17 rfl (lv_at hl 0 rfl) ?_
        refine gf_9_25 C hH hk0 d9_letterAt_18 ?_
        refine lv_iload_n hx hb d9_letterAt_21 rfl (lv_at hl 1 rfl) ?_
        obtain ⟨hi22, e⟩ := ce_gd e
        refine ce_iald C hH (la_Told_4 hk0).1 (la_Told_4 hk0).2 (ce_in_vp hi22) d9_letterAt_22 ?_
        refine lv_icmp_lt (tgt := 28) hx hb d9_letterAt_23 (by decide) (fun hc23 => ?_) (fun hc23 => ?_)
        · have e := ce_if1 e hc23
          refine lv_aload_n hx hb d9_letterAt_28 rfl (lv_at hl 0 rfl) ?_
          refine gf_9_28 C hH hk0 d9_letterAt_29 ?_
          refine lv_iload_n hx hb d9_letterAt_32 rfl (lv_at hl 1 rfl) ?_
          refine lv_iconst (v := (4 : Int32)) hx hb d9_letterAt_33 (by decide) ?_
          refine lv_imul hx hb d9_letterAt_34 ?_
          refine lv_iload_n hx hb d9_letterAt_35 rfl (lv_at hl 2 rfl) ?_
          refine lv_iadd hx hb d9_letterAt_36 ?_
          obtain ⟨hi37, e⟩ := ce_gd e
          refine ce_iald C hH (la_Told_5 hk0).1 (la_Told_5 hk0).2 (ce_in_vp hi37) d9_letterAt_37 ?_
          exact ce_iretE C (ce_sok aK aV B0) hH e d9_letterAt_38
        · have e := ce_if0 e hc23
          refine lv_iconst (v := (-1 : Int32)) hx hb d9_letterAt_26 (by decide) ?_
          exact ce_iretE C (ce_sok aK aV B0) hH e d9_letterAt_27
abbrev b9_lettersOf : ByteArray := prog_11_method_10_code
def y9_lettersOf : MethodName := ⟨cn_9, "lettersOf", "(II)I"⟩
theorem d9_lettersOf_0 : decode b9_lettersOf 0 = .ok (.iconst 0, 1) := by decide +kernel
theorem d9_lettersOf_1 : decode b9_lettersOf 1 = .ok (.istore_n 3, 1) := by decide +kernel
theorem d9_lettersOf_2 : decode b9_lettersOf 2 = .ok (.iconst 0, 1) := by decide +kernel
theorem d9_lettersOf_3 : decode b9_lettersOf 3 = .ok (.istore 4, 2) := by decide +kernel
theorem d9_lettersOf_5 : decode b9_lettersOf 5 = .ok (.iload 4, 2) := by decide +kernel
theorem d9_lettersOf_7 : decode b9_lettersOf 7 = .ok (.iconst 4, 1) := by decide +kernel
theorem d9_lettersOf_8 : decode b9_lettersOf 8 = .ok (.if_icmp .ge 23, 3) := by decide +kernel
theorem d9_lettersOf_11 : decode b9_lettersOf 11 = .ok (.aload_n 0, 1) := by decide +kernel
theorem d9_lettersOf_12 : decode b9_lettersOf 12 = .ok (.iload_n 1, 1) := by decide +kernel
theorem d9_lettersOf_13 : decode b9_lettersOf 13 = .ok (.iload 4, 2) := by decide +kernel
theorem d9_lettersOf_15 : decode b9_lettersOf 15 = .ok (.invokevirtual 107, 3) := by decide +kernel
theorem d9_lettersOf_18 : decode b9_lettersOf 18 = .ok (.iload_n 2, 1) := by decide +kernel
theorem d9_lettersOf_19 : decode b9_lettersOf 19 = .ok (.if_icmp .ne 6, 3) := by decide +kernel
theorem d9_lettersOf_22 : decode b9_lettersOf 22 = .ok (.iinc 3 1, 3) := by decide +kernel
theorem d9_lettersOf_25 : decode b9_lettersOf 25 = .ok (.iinc 4 1, 3) := by decide +kernel
theorem d9_lettersOf_28 : decode b9_lettersOf 28 = .ok (.goto (-23), 3) := by decide +kernel
theorem d9_lettersOf_31 : decode b9_lettersOf 31 = .ok (.iload_n 3, 1) := by decide +kernel
theorem d9_lettersOf_32 : decode b9_lettersOf 32 = .ok (.ireturn, 1) := by decide +kernel
theorem mc9_letterAt : Cond.code y9_letterAt b9_letterAt 3 (some .int) ∈ ce_cm := ce_cm_of (List.mem_of_getElem? (i := 991) (by decide +kernel)) (by decide +kernel)
theorem ml_9_107 : Cond.methodLink cn_9 107 y9_letterAt ∈ ce_cm := ce_cm_of (List.mem_of_getElem? (i := 988) (by decide +kernel)) (by decide +kernel)
theorem mi9_letterAt : Cond.instanceMethod y9_letterAt ∈ ce_cm := ce_cm_of (List.mem_of_getElem? (i := 989) (by decide +kernel)) (by decide +kernel)
theorem ms9_letterAt : Cond.selects cn_9 y9_letterAt y9_letterAt ∈ ce_cm := ce_cm_of (List.mem_of_getElem? (i := 990) (by decide +kernel)) (by decide +kernel)
def f9_lettersOf_b5 (F : Nat) (k0 : Nat) (x1 : Int32) (x2 : Int32) (x3 : Int32) (x4 : Int32) (h : Hp) : Option ((Int32 × Int32 × Hp) ⊕ (Int32 × Hp)) :=
  if (4 : Int32) ≤ x4 then
    some (.inr (x3, h))
  else
    Option.bind (f9_letterAt F k0 x1 x4 h) (fun o15 =>
      if o15.1 = x2 then
        some (.inl (x3 + (1 : Int32), x4 + (1 : Int32), o15.2))
      else
        some (.inl (x3, x4 + (1 : Int32), o15.2)))
set_option maxRecDepth 20000 in
theorem l9_lettersOf_5 (C : ce_Cx p s m args c meth b9_lettersOf 5 (some .int) cn_9 D ad cA B0 (ce_St aK aV B0)) (F : Nat) (k0 : Nat) (x1 : Int32) (x2 : Int32) (hk0 : ce_isTold k0) (r : Int32 × Hp) (g : (Int32 × Hp) → Option (Int32 × Hp)) (hx : ∀ (x3 : Int32) (h : Hp) (H : Heap) (locs : List Loc) (ls : Array Slot), ce_H D ad cA B0 [] s h H locs → lv_has ls 5 [(3, .int x3)] → g (x3, h) = some r → W p l e0 { frames := 1, cells := 0, slots := 0, locals := 22 } s m args below meth c H locs 0 0 (MQ below (ce_Q D ad cA B0 (ce_St aK aV B0) (some (.int r.1)) r.2) args s 0 0 (fun q => B0 ≤ q)) (F0 m 31 ls [])) : ∀ (n : Nat) (x3 : Int32) (x4 : Int32) (h : Hp) (H : Heap) (locs : List Loc) (ls : Array Slot), ce_H D ad cA B0 [] s h H locs → lv_has ls 5 [(0, .ref (ad k0)), (1, .int x1), (2, .int x2), (3, .int x3), (4, .int x4)] → Option.bind (ce_it (fun (st : Int32 × Int32 × Hp) => f9_lettersOf_b5 F k0 x1 x2 st.1 st.2.1 st.2.2) n (x3, x4, h)) g = some r → W p l e0 { frames := 1, cells := 0, slots := 0, locals := 22 } s m args below meth c H locs 0 0 (MQ below (ce_Q D ad cA B0 (ce_St aK aV B0) (some (.int r.1)) r.2) args s 0 0 (fun q => B0 ≤ q)) (F0 m 5 ls []) := by
  intro n
  induction n with
  | zero =>
    intro x3 x4 h H locs ls hH hl e
    exact absurd e (fun z => by cases z)
  | succ n ih =>
    intro x3 x4 h H locs ls hH hl e
    have hx9 := C.1
    have hb := C.2.1
    have e : Option.bind (f9_lettersOf_b5 F k0 x1 x2 x3 x4 h) _ = some r := ce_it_bd e
    unfold f9_lettersOf_b5 at e
    refine lv_iload hx9 hb d9_lettersOf_5 (lv_at hl 4 rfl) ?_
    refine lv_iconst (v := (4 : Int32)) hx9 hb d9_lettersOf_7 (by decide) ?_
    refine lv_icmp_ge (tgt := 31) hx9 hb d9_lettersOf_8 (by decide) (fun hc8 => ?_) (fun hc8 => ?_)
    · have e := ce_if1 e hc8
      exact hx x3 h _ _ _ hH (lv_sub hl [3] rfl) e
    · have e := ce_if0 e hc8
      refine lv_aload_n hx9 hb d9_lettersOf_11 rfl (lv_at hl 0 rfl) ?_
      refine lv_iload_n hx9 hb d9_lettersOf_12 rfl (lv_at hl 1 rfl) ?_
      refine lv_iload hx9 hb d9_lettersOf_13 (lv_at hl 4 rfl) ?_
      obtain ⟨o15, eo15, e⟩ := ce_bd e
      refine ce_callV (As := [.int x1, .int x4]) (rest := []) C (ce_sok aK aV B0) hH (c9_letterAt l D ad cA aK aV B0 C.2.2.2.2.2.2.1 F k0 x1 x4 hk0 h o15 eo15) (lk_Told hk0).1 (lk_Told hk0).2.choose_spec rfl rfl mc9_letterAt ml_9_107 mi9_letterAt ms9_letterAt mI_9 (n := 2) (by decide) rfl ⟨Nat.le_of_ble_eq_true rfl, Nat.le_of_ble_eq_true rfl⟩ ⟨Nat.le_of_ble_eq_true rfl, Nat.le_of_ble_eq_true rfl⟩ hl.1 rfl (Nat.le_of_ble_eq_true rfl) d9_lettersOf_15 (fun H locs hH => ?_)
      refine W.eq (g2 := F0 m 18 ls [.int o15.1]) rfl ?_
      refine lv_iload_n hx9 hb d9_lettersOf_18 rfl (lv_at hl 2 rfl) ?_
      refine lv_icmp_ne (tgt := 25) hx9 hb d9_lettersOf_19 (by decide) (fun hc19 => ?_) (fun hc19 => ?_)
      · have e := ce_if0 e hc19
        refine lv_iinc (v := x4 + (1 : Int32)) (lv' := [(4, .int (x4 + (1 : Int32))), (0, .ref (ad k0)), (1, .int x1), (2, .int x2), (3, .int x3)]) hx9 hb d9_lettersOf_25 hl (k := 4) rfl rfl (by decide) rfl (fun ls hl => ?_)
        refine lv_goto (tgt := 5) hx9 hb d9_lettersOf_28 (by decide) ?_
        exact ih x3 (x4 + (1 : Int32)) o15.2 _ _ _ hH (lv_sub hl [1, 2, 3, 4, 0] rfl) e
      · have e := ce_if1 e hc19
        refine lv_iinc (v := x3 + (1 : Int32)) (lv' := [(3, .int (x3 + (1 : Int32))), (0, .ref (ad k0)), (1, .int x1), (2, .int x2), (4, .int x4)]) hx9 hb d9_lettersOf_22 hl (k := 3) rfl rfl (by decide) rfl (fun ls hl => ?_)
        refine lv_iinc (v := x4 + (1 : Int32)) (lv' := [(4, .int (x4 + (1 : Int32))), (3, .int (x3 + (1 : Int32))), (0, .ref (ad k0)), (1, .int x1), (2, .int x2)]) hx9 hb d9_lettersOf_25 hl (k := 4) rfl rfl (by decide) rfl (fun ls hl => ?_)
        refine lv_goto (tgt := 5) hx9 hb d9_lettersOf_28 (by decide) ?_
        exact ih (x3 + (1 : Int32)) (x4 + (1 : Int32)) o15.2 _ _ _ hH (lv_sub hl [2, 3, 4, 1, 0] rfl) e
def f9_lettersOf (F : Nat) (k0 : Nat) (x1 : Int32) (x2 : Int32) (h : Hp) : Option (Int32 × Hp) :=
  Option.bind (ce_it (fun (st : Int32 × Int32 × Hp) => f9_lettersOf_b5 F k0 x1 x2 st.1 st.2.1 st.2.2) F ((0 : Int32), (0 : Int32), h)) (fun o5 =>
    some (o5.1, o5.2))
set_option maxRecDepth 20000 in
theorem c9_lettersOf (l : Launch) (D : va_G) (ad : Nat → Nat) (cA : Nat → ClassId) (aK aV : Nat → Nat) (B0 : Nat) (hA : ce_Ad ad B0) (F : Nat) (k0 : Nat) (x1 : Int32) (x2 : Int32) (hk0 : ce_isTold k0) (h : Hp) (r : Int32 × Hp) (e : f9_lettersOf F k0 x1 x2 h = some r) : ce_Ct l D ad cA B0 (ce_St aK aV B0) y9_lettersOf b9_lettersOf 5 (some .int) 1 22 0 0 [.ref (ad k0), .int x1, .int x2] h (some (.int r.1)) r.2 := by
  refine ce_enter hA (by decide) rfl (Nat.le_of_ble_eq_true rfl) (fun p e0 s m below meth c ls C hH hl => ?_)
  have hl : lv_has ls 5 [(0, .ref (ad k0)), (1, .int x1), (2, .int x2)] := hl
  have hx := C.1
  have hb := C.2.1
  have e : Option.bind _ some = some r := (congrArg (fun z => Option.bind z some) e).trans rfl
  unfold f9_lettersOf at e
  refine lv_iconst (v := (0 : Int32)) hx hb d9_lettersOf_0 (by decide) ?_
  refine lv_istore_n (lv' := [(3, .int (0 : Int32)), (0, .ref (ad k0)), (1, .int x1), (2, .int x2)]) hx hb d9_lettersOf_1 rfl hl (by decide) rfl (fun ls hl => ?_)
  refine lv_iconst (v := (0 : Int32)) hx hb d9_lettersOf_2 (by decide) ?_
  refine lv_istore (lv' := [(4, .int (0 : Int32)), (3, .int (0 : Int32)), (0, .ref (ad k0)), (1, .int x1), (2, .int x2)]) hx hb d9_lettersOf_3 hl (by decide) rfl (fun ls hl => ?_)
  refine l9_lettersOf_5 C F k0 x1 x2 hk0 r _ (fun y5_3 h_5 H locs ls hH hl e => ?_) F (0 : Int32) (0 : Int32) h _ _ _ hH (lv_sub hl [2, 3, 4, 1, 0] rfl) (ce_as e)
  try dsimp only at e
  refine lv_iload_n hx hb d9_lettersOf_31 rfl (lv_at hl 0 rfl) ?_
  exact ce_iretE C (ce_sok aK aV B0) hH e d9_lettersOf_32
abbrev b9_cablesToRoot : ByteArray := prog_11_method_11_code
def y9_cablesToRoot : MethodName := ⟨cn_9, "cablesToRoot", "(I)I"⟩
theorem d9_cablesToRoot_0 : decode b9_cablesToRoot 0 = .ok (.iconst 0, 1) := by decide +kernel
theorem d9_cablesToRoot_1 : decode b9_cablesToRoot 1 = .ok (.istore_n 2, 1) := by decide +kernel
theorem d9_cablesToRoot_2 : decode b9_cablesToRoot 2 = .ok (.iload_n 1, 1) := by decide +kernel
theorem d9_cablesToRoot_3 : decode b9_cablesToRoot 3 = .ok (.istore_n 3, 1) := by decide +kernel
theorem d9_cablesToRoot_4 : decode b9_cablesToRoot 4 = .ok (.iload_n 2, 1) := by decide +kernel
theorem d9_cablesToRoot_5 : decode b9_cablesToRoot 5 = .ok (.bipush 12, 2) := by decide +kernel
theorem d9_cablesToRoot_7 : decode b9_cablesToRoot 7 = .ok (.if_icmp .ge 26, 3) := by decide +kernel
theorem d9_cablesToRoot_10 : decode b9_cablesToRoot 10 = .ok (.aload_n 0, 1) := by decide +kernel
theorem d9_cablesToRoot_11 : decode b9_cablesToRoot 11 = .ok (.getfield 15, 3) := by decide +kernel
theorem d9_cablesToRoot_14 : decode b9_cablesToRoot 14 = .ok (.iload_n 3, 1) := by decide +kernel
theorem d9_cablesToRoot_15 : decode b9_cablesToRoot 15 = .ok (.iaload, 1) := by decide +kernel
theorem d9_cablesToRoot_16 : decode b9_cablesToRoot 16 = .ok (.iconst (-1), 1) := by decide +kernel
theorem d9_cablesToRoot_17 : decode b9_cablesToRoot 17 = .ok (.if_icmp .eq 16, 3) := by decide +kernel
theorem d9_cablesToRoot_20 : decode b9_cablesToRoot 20 = .ok (.iinc 2 1, 3) := by decide +kernel
theorem d9_cablesToRoot_23 : decode b9_cablesToRoot 23 = .ok (.aload_n 0, 1) := by decide +kernel
theorem d9_cablesToRoot_24 : decode b9_cablesToRoot 24 = .ok (.getfield 15, 3) := by decide +kernel
theorem d9_cablesToRoot_27 : decode b9_cablesToRoot 27 = .ok (.iload_n 3, 1) := by decide +kernel
theorem d9_cablesToRoot_28 : decode b9_cablesToRoot 28 = .ok (.iaload, 1) := by decide +kernel
theorem d9_cablesToRoot_29 : decode b9_cablesToRoot 29 = .ok (.istore_n 3, 1) := by decide +kernel
theorem d9_cablesToRoot_30 : decode b9_cablesToRoot 30 = .ok (.goto (-26), 3) := by decide +kernel
theorem d9_cablesToRoot_33 : decode b9_cablesToRoot 33 = .ok (.iload_n 2, 1) := by decide +kernel
theorem d9_cablesToRoot_34 : decode b9_cablesToRoot 34 = .ok (.ireturn, 1) := by decide +kernel
def f9_cablesToRoot_b4 (F : Nat) (k0 : Nat) (x2 : Int32) (x3 : Int32) (h : Hp) : Option ((Int32 × Int32 × Hp) ⊕ (Int32 × Hp)) :=
  if (12 : Int32) ≤ x2 then
    some (.inr (x2, h))
  else
    if ce_in x3 12 = true then
      if (h (k0 + 1) (x3).toNatClampNeg) = (-1 : Int32) then
        some (.inr (x2, h))
      else
        if ce_in x3 12 = true then
          some (.inl (x2 + (1 : Int32), h (k0 + 1) (x3).toNatClampNeg, h))
        else none
    else none
set_option maxRecDepth 20000 in
theorem l9_cablesToRoot_4 (C : ce_Cx p s m args c meth b9_cablesToRoot 4 (some .int) cn_9 D ad cA B0 (ce_St aK aV B0)) (F : Nat) (k0 : Nat) (hk0 : ce_isTold k0) (r : Int32 × Hp) (g : (Int32 × Hp) → Option (Int32 × Hp)) (hx : ∀ (x2 : Int32) (h : Hp) (H : Heap) (locs : List Loc) (ls : Array Slot), ce_H D ad cA B0 [] s h H locs → lv_has ls 4 [(2, .int x2)] → g (x2, h) = some r → W p l e0 { frames := 0, cells := 0, slots := 0, locals := 0 } s m args below meth c H locs 0 0 (MQ below (ce_Q D ad cA B0 (ce_St aK aV B0) (some (.int r.1)) r.2) args s 0 0 (fun q => B0 ≤ q)) (F0 m 33 ls [])) : ∀ (n : Nat) (x2 : Int32) (x3 : Int32) (h : Hp) (H : Heap) (locs : List Loc) (ls : Array Slot), ce_H D ad cA B0 [] s h H locs → lv_has ls 4 [(0, .ref (ad k0)), (2, .int x2), (3, .int x3)] → Option.bind (ce_it (fun (st : Int32 × Int32 × Hp) => f9_cablesToRoot_b4 F k0 st.1 st.2.1 st.2.2) n (x2, x3, h)) g = some r → W p l e0 { frames := 0, cells := 0, slots := 0, locals := 0 } s m args below meth c H locs 0 0 (MQ below (ce_Q D ad cA B0 (ce_St aK aV B0) (some (.int r.1)) r.2) args s 0 0 (fun q => B0 ≤ q)) (F0 m 4 ls []) := by
  intro n
  induction n with
  | zero =>
    intro x2 x3 h H locs ls hH hl e
    exact absurd e (fun z => by cases z)
  | succ n ih =>
    intro x2 x3 h H locs ls hH hl e
    have hx9 := C.1
    have hb := C.2.1
    have e : Option.bind (f9_cablesToRoot_b4 F k0 x2 x3 h) _ = some r := ce_it_bd e
    unfold f9_cablesToRoot_b4 at e
    refine lv_iload_n hx9 hb d9_cablesToRoot_4 rfl (lv_at hl 1 rfl) ?_
    refine lv_bipush (v := (12 : Int32)) hx9 hb d9_cablesToRoot_5 (by decide) ?_
    refine lv_icmp_ge (tgt := 33) hx9 hb d9_cablesToRoot_7 (by decide) (fun hc7 => ?_) (fun hc7 => ?_)
    · have e := ce_if1 e hc7
      exact hx x2 h _ _ _ hH (lv_sub hl [1] rfl) e
    · have e := ce_if0 e hc7
      refine lv_aload_n hx9 hb d9_cablesToRoot_10 rfl (lv_at hl 0 rfl) ?_
      refine gf_9_15 C hH hk0 d9_cablesToRoot_11 ?_
      refine lv_iload_n hx9 hb d9_cablesToRoot_14 rfl (lv_at hl 2 rfl) ?_
      obtain ⟨hi15, e⟩ := ce_gd e
      refine ce_iald C hH (la_Told_1 hk0).1 (la_Told_1 hk0).2 (ce_in_vp hi15) d9_cablesToRoot_15 ?_
      refine lv_iconst (v := (-1 : Int32)) hx9 hb d9_cablesToRoot_16 (by decide) ?_
      refine lv_icmp_eq (tgt := 33) hx9 hb d9_cablesToRoot_17 (by decide) (fun hc17 => ?_) (fun hc17 => ?_)
      · have e := ce_if1 e hc17
        exact hx x2 h _ _ _ hH (lv_sub hl [1] rfl) e
      · have e := ce_if0 e hc17
        refine lv_iinc (v := x2 + (1 : Int32)) (lv' := [(2, .int (x2 + (1 : Int32))), (0, .ref (ad k0)), (3, .int x3)]) hx9 hb d9_cablesToRoot_20 hl (k := 1) rfl rfl (by decide) rfl (fun ls hl => ?_)
        refine lv_aload_n hx9 hb d9_cablesToRoot_23 rfl (lv_at hl 1 rfl) ?_
        refine gf_9_15 C hH hk0 d9_cablesToRoot_24 ?_
        refine lv_iload_n hx9 hb d9_cablesToRoot_27 rfl (lv_at hl 2 rfl) ?_
        obtain ⟨hi28, e⟩ := ce_gd e
        refine ce_iald C hH (la_Told_1 hk0).1 (la_Told_1 hk0).2 (ce_in_vp hi28) d9_cablesToRoot_28 ?_
        refine lv_istore_n (lv' := [(3, .int (h (k0 + 1) (x3).toNatClampNeg)), (2, .int (x2 + (1 : Int32))), (0, .ref (ad k0))]) hx9 hb d9_cablesToRoot_29 rfl hl (by decide) rfl (fun ls hl => ?_)
        refine lv_goto (tgt := 4) hx9 hb d9_cablesToRoot_30 (by decide) ?_
        exact ih (x2 + (1 : Int32)) (h (k0 + 1) (x3).toNatClampNeg) h _ _ _ hH (lv_sub hl [2, 1, 0] rfl) e
def f9_cablesToRoot (F : Nat) (k0 : Nat) (x1 : Int32) (h : Hp) : Option (Int32 × Hp) :=
  Option.bind (ce_it (fun (st : Int32 × Int32 × Hp) => f9_cablesToRoot_b4 F k0 st.1 st.2.1 st.2.2) F ((0 : Int32), x1, h)) (fun o4 =>
    some (o4.1, o4.2))
set_option maxRecDepth 20000 in
theorem c9_cablesToRoot (l : Launch) (D : va_G) (ad : Nat → Nat) (cA : Nat → ClassId) (aK aV : Nat → Nat) (B0 : Nat) (hA : ce_Ad ad B0) (F : Nat) (k0 : Nat) (x1 : Int32) (hk0 : ce_isTold k0) (h : Hp) (r : Int32 × Hp) (e : f9_cablesToRoot F k0 x1 h = some r) : ce_Ct l D ad cA B0 (ce_St aK aV B0) y9_cablesToRoot b9_cablesToRoot 4 (some .int) 0 0 0 0 [.ref (ad k0), .int x1] h (some (.int r.1)) r.2 := by
  refine ce_enter hA (by decide) rfl (Nat.le_of_ble_eq_true rfl) (fun p e0 s m below meth c ls C hH hl => ?_)
  have hl : lv_has ls 4 [(0, .ref (ad k0)), (1, .int x1)] := hl
  have hx := C.1
  have hb := C.2.1
  have e : Option.bind _ some = some r := (congrArg (fun z => Option.bind z some) e).trans rfl
  unfold f9_cablesToRoot at e
  refine lv_iconst (v := (0 : Int32)) hx hb d9_cablesToRoot_0 (by decide) ?_
  refine lv_istore_n (lv' := [(2, .int (0 : Int32)), (0, .ref (ad k0)), (1, .int x1)]) hx hb d9_cablesToRoot_1 rfl hl (by decide) rfl (fun ls hl => ?_)
  refine lv_iload_n hx hb d9_cablesToRoot_2 rfl (lv_at hl 2 rfl) ?_
  refine lv_istore_n (lv' := [(3, .int x1), (2, .int (0 : Int32)), (0, .ref (ad k0)), (1, .int x1)]) hx hb d9_cablesToRoot_3 rfl hl (by decide) rfl (fun ls hl => ?_)
  refine l9_cablesToRoot_4 C F k0 hk0 r _ (fun y4_2 h_4 H locs ls hH hl e => ?_) F (0 : Int32) x1 h _ _ _ hH (lv_sub hl [2, 1, 0] rfl) (ce_as e)
  try dsimp only at e
  refine lv_iload_n hx hb d9_cablesToRoot_33 rfl (lv_at hl 0 rfl) ?_
  exact ce_iretE C (ce_sok aK aV B0) hH e d9_cablesToRoot_34
abbrev b8_readBus : ByteArray := prog_10_method_3_code
def y8_readBus : MethodName := ⟨cn_8, "readBus", "(LCableElection$Reading;LCableElection$Net;)V"⟩
theorem d8_readBus_0 : decode b8_readBus 0 = .ok (.aload_n 1, 1) := by decide +kernel
theorem d8_readBus_1 : decode b8_readBus 1 = .ok (.ldc 61, 2) := by decide +kernel
theorem d8_readBus_3 : decode b8_readBus 3 = .ok (.invokevirtual 63, 3) := by decide +kernel
theorem d8_readBus_6 : decode b8_readBus 6 = .ok (.aload_n 1, 1) := by decide +kernel
theorem d8_readBus_7 : decode b8_readBus 7 = .ok (.ldc 67, 2) := by decide +kernel
theorem d8_readBus_9 : decode b8_readBus 9 = .ok (.invokevirtual 63, 3) := by decide +kernel
theorem d8_readBus_12 : decode b8_readBus 12 = .ok (.aload_n 2, 1) := by decide +kernel
theorem d8_readBus_13 : decode b8_readBus 13 = .ok (.aload_n 1, 1) := by decide +kernel
theorem d8_readBus_14 : decode b8_readBus 14 = .ok (.iconst 0, 1) := by decide +kernel
theorem d8_readBus_15 : decode b8_readBus 15 = .ok (.bipush 20, 2) := by decide +kernel
theorem d8_readBus_17 : decode b8_readBus 17 = .ok (.invokevirtual 69, 3) := by decide +kernel
theorem d8_readBus_20 : decode b8_readBus 20 = .ok (.putfield 73, 3) := by decide +kernel
theorem d8_readBus_23 : decode b8_readBus 23 = .ok (.aload_n 1, 1) := by decide +kernel
theorem d8_readBus_24 : decode b8_readBus 24 = .ok (.ldc 75, 2) := by decide +kernel
theorem d8_readBus_26 : decode b8_readBus 26 = .ok (.invokevirtual 63, 3) := by decide +kernel
theorem d8_readBus_29 : decode b8_readBus 29 = .ok (.aload_n 2, 1) := by decide +kernel
theorem d8_readBus_30 : decode b8_readBus 30 = .ok (.aload_n 1, 1) := by decide +kernel
theorem d8_readBus_31 : decode b8_readBus 31 = .ok (.iconst 0, 1) := by decide +kernel
theorem d8_readBus_32 : decode b8_readBus 32 = .ok (.bipush 9, 2) := by decide +kernel
theorem d8_readBus_34 : decode b8_readBus 34 = .ok (.invokevirtual 69, 3) := by decide +kernel
theorem d8_readBus_37 : decode b8_readBus 37 = .ok (.putfield 77, 3) := by decide +kernel
theorem d8_readBus_40 : decode b8_readBus 40 = .ok (.return_, 1) := by decide +kernel
theorem fl_8_73 : Cond.fieldLink cn_8 73 (ft_5 1).1 (ft_5 1).2.1 (ft_5 1).2.2.1 ∈ ce_cm := ce_cm_of (List.mem_of_getElem? (i := 197) (by decide +kernel)) (by decide +kernel)
theorem gf_8_73 (C : ce_Cx p s m args c meth cc nL ret cn_8 D ad cA B0 (ce_St aK aV B0)) (hH : ce_H D ad cA B0 X s h H locs) {k : Nat} (hk : ce_isNet k) (hdg : decode cc pc = .ok (.getfield 73, 3)) (kk : W p l e0 R s m args below meth c H locs cells slots Q (F0 m (pc + 3) ls (.int (h k 1) :: rest))) : W p l e0 R s m args below meth c H locs cells slots Q (F0 m pc ls (.ref (ad k) :: rest)) := by
  rcases hk with rfl | rfl
  · exact ce_get C hH (k := 7) (ci := 5) (j := 1) (N := 11) (sj := none) (by decide) rfl rfl fw_5 (by decide) fl_8_73 rfl hdg kk
  · exact ce_get C hH (k := 14) (ci := 5) (j := 1) (N := 11) (sj := none) (by decide) rfl rfl fw_5 (by decide) fl_8_73 rfl hdg kk
theorem pf_8_73 (C : ce_Cx p s m args c meth cc nL ret cn_8 D ad cA B0 (ce_St aK aV B0)) (hH : ce_H D ad cA B0 X s h H locs) {k : Nat} (hk : ce_isNet k) {x : Int32} (hdg : decode cc pc = .ok (.putfield 73, 3)) (kk : ∀ (H1 : Heap) (locs1 : List Loc), ce_H D ad cA B0 X s (hp_up h k 1 x) H1 locs1 → W p l e0 R s m args below meth c H1 locs1 cells slots Q (F0 m (pc + 3) ls rest)) : W p l e0 R s m args below meth c H locs cells slots Q (F0 m pc ls (.int x :: .ref (ad k) :: rest)) := by
  rcases hk with rfl | rfl
  · exact ce_put C hH (k := 7) (ci := 5) (j := 1) (N := 11) (fy := fy_5) (sj := none) x (by decide) rfl rfl fw_5 fo_5 fn_5 (by decide) fl_8_73 rfl rfl (v := .int x) (by simp [ce_slot, upd]) rfl rfl hdg kk
  · exact ce_put C hH (k := 14) (ci := 5) (j := 1) (N := 11) (fy := fy_5) (sj := none) x (by decide) rfl rfl fw_5 fo_5 fn_5 (by decide) fl_8_73 rfl rfl (v := .int x) (by simp [ce_slot, upd]) rfl rfl hdg kk
theorem fl_8_77 : Cond.fieldLink cn_8 77 (ft_5 2).1 (ft_5 2).2.1 (ft_5 2).2.2.1 ∈ ce_cm := ce_cm_of (List.mem_of_getElem? (i := 200) (by decide +kernel)) (by decide +kernel)
theorem gf_8_77 (C : ce_Cx p s m args c meth cc nL ret cn_8 D ad cA B0 (ce_St aK aV B0)) (hH : ce_H D ad cA B0 X s h H locs) {k : Nat} (hk : ce_isNet k) (hdg : decode cc pc = .ok (.getfield 77, 3)) (kk : W p l e0 R s m args below meth c H locs cells slots Q (F0 m (pc + 3) ls (.int (h k 2) :: rest))) : W p l e0 R s m args below meth c H locs cells slots Q (F0 m pc ls (.ref (ad k) :: rest)) := by
  rcases hk with rfl | rfl
  · exact ce_get C hH (k := 7) (ci := 5) (j := 2) (N := 11) (sj := none) (by decide) rfl rfl fw_5 (by decide) fl_8_77 rfl hdg kk
  · exact ce_get C hH (k := 14) (ci := 5) (j := 2) (N := 11) (sj := none) (by decide) rfl rfl fw_5 (by decide) fl_8_77 rfl hdg kk
theorem pf_8_77 (C : ce_Cx p s m args c meth cc nL ret cn_8 D ad cA B0 (ce_St aK aV B0)) (hH : ce_H D ad cA B0 X s h H locs) {k : Nat} (hk : ce_isNet k) {x : Int32} (hdg : decode cc pc = .ok (.putfield 77, 3)) (kk : ∀ (H1 : Heap) (locs1 : List Loc), ce_H D ad cA B0 X s (hp_up h k 2 x) H1 locs1 → W p l e0 R s m args below meth c H1 locs1 cells slots Q (F0 m (pc + 3) ls rest)) : W p l e0 R s m args below meth c H locs cells slots Q (F0 m pc ls (.int x :: .ref (ad k) :: rest)) := by
  rcases hk with rfl | rfl
  · exact ce_put C hH (k := 7) (ci := 5) (j := 2) (N := 11) (fy := fy_5) (sj := none) x (by decide) rfl rfl fw_5 fo_5 fn_5 (by decide) fl_8_77 rfl rfl (v := .int x) (by simp [ce_slot, upd]) rfl rfl hdg kk
  · exact ce_put C hH (k := 14) (ci := 5) (j := 2) (N := 11) (fy := fy_5) (sj := none) x (by decide) rfl rfl fw_5 fo_5 fn_5 (by decide) fl_8_77 rfl rfl (v := .int x) (by simp [ce_slot, upd]) rfl rfl hdg kk
theorem mc6_takeNumber : Cond.code y6_takeNumber b6_takeNumber 4 (some .int) ∈ ce_cm := ce_cm_of (List.mem_of_getElem? (i := 596) (by decide +kernel)) (by decide +kernel)
theorem ml_8_69 : Cond.methodLink cn_8 69 y6_takeNumber ∈ ce_cm := ce_cm_of (List.mem_of_getElem? (i := 593) (by decide +kernel)) (by decide +kernel)
theorem mi6_takeNumber : Cond.instanceMethod y6_takeNumber ∈ ce_cm := ce_cm_of (List.mem_of_getElem? (i := 594) (by decide +kernel)) (by decide +kernel)
theorem ms6_takeNumber : Cond.selects cn_6 y6_takeNumber y6_takeNumber ∈ ce_cm := ce_cm_of (List.mem_of_getElem? (i := 595) (by decide +kernel)) (by decide +kernel)
theorem mc6_takeWord : Cond.code y6_takeWord b6_takeWord 2 none ∈ ce_cm := ce_cm_of (List.mem_of_getElem? (i := 535) (by decide +kernel)) (by decide +kernel)
theorem ml_8_63 : Cond.methodLink cn_8 63 y6_takeWord ∈ ce_cm := ce_cm_of (List.mem_of_getElem? (i := 532) (by decide +kernel)) (by decide +kernel)
theorem mi6_takeWord : Cond.instanceMethod y6_takeWord ∈ ce_cm := ce_cm_of (List.mem_of_getElem? (i := 533) (by decide +kernel)) (by decide +kernel)
theorem ms6_takeWord : Cond.selects cn_6 y6_takeWord y6_takeWord ∈ ce_cm := ce_cm_of (List.mem_of_getElem? (i := 534) (by decide +kernel)) (by decide +kernel)
def f8_readBus (F : Nat) (k2 : Nat) (h : Hp) : Option (Hp) :=
  Option.bind (f6_takeWord F 0 h) (fun o3 =>
    Option.bind (f6_takeWord F 1 o3) (fun o9 =>
      Option.bind (f6_takeNumber F (0 : Int32) (20 : Int32) o9) (fun o17 =>
        ce_nm (hp_up o17.2 k2 1 o17.1) (fun h_20 =>
          Option.bind (f6_takeWord F 2 h_20) (fun o26 =>
            Option.bind (f6_takeNumber F (0 : Int32) (9 : Int32) o26) (fun o34 =>
              ce_nm (hp_up o34.2 k2 2 o34.1) (fun h_37 =>
                some h_37)))))))
set_option maxRecDepth 20000 in
theorem c8_readBus (l : Launch) (D : va_G) (ad : Nat → Nat) (cA : Nat → ClassId) (aK aV : Nat → Nat) (B0 : Nat) (hA : ce_Ad ad B0) (F : Nat) (k2 : Nat) (hk2 : ce_isNet k2) (h : Hp) (r : Hp) (e : f8_readBus F k2 h = some r) : ce_Ct l D ad cA B0 (ce_St aK aV B0) y8_readBus b8_readBus 3 none 11 264 0 0 [.ref (ad 4), .ref (ad 1), .ref (ad k2)] h none r := by
  refine ce_enter hA (by decide) rfl (Nat.le_of_ble_eq_true rfl) (fun p e0 s m below meth c ls C hH hl => ?_)
  have hl : lv_has ls 3 [(0, .ref (ad 4)), (1, .ref (ad 1)), (2, .ref (ad k2))] := hl
  have hx := C.1
  have hb := C.2.1
  have e : Option.bind _ some = some r := (congrArg (fun z => Option.bind z some) e).trans rfl
  unfold f8_readBus at e
  refine lv_aload_n hx hb d8_readBus_0 rfl (lv_at hl 1 rfl) ?_
  refine va_ldcS hx hb C.2.2.2.1 (ce_srR C.2.2.2.2.2.2.2.2.2.2 0 rfl) d8_readBus_1 ?_
  obtain ⟨o3, eo3, e⟩ := ce_bd e
  refine ce_callV (As := [.ref (aK 0)]) (rest := []) C (ce_sok aK aV B0) hH (c6_takeWord l D ad cA aK aV B0 C.2.2.2.2.2.2.1 F 0 (by decide) h o3 eo3) lo_1.1 lo_1.2.choose_spec rfl rfl mc6_takeWord ml_8_63 mi6_takeWord ms6_takeWord mI_6 (n := 1) (by decide) rfl ⟨Nat.le_of_ble_eq_true rfl, Nat.le_of_ble_eq_true rfl⟩ ⟨Nat.le_of_ble_eq_true rfl, Nat.le_of_ble_eq_true rfl⟩ hl.1 rfl (Nat.le_of_ble_eq_true rfl) d8_readBus_3 (fun H locs hH => ?_)
  refine W.eq (g2 := F0 m 6 ls []) rfl ?_
  refine lv_aload_n hx hb d8_readBus_6 rfl (lv_at hl 1 rfl) ?_
  refine va_ldcS hx hb C.2.2.2.1 (ce_srR C.2.2.2.2.2.2.2.2.2.2 1 rfl) d8_readBus_7 ?_
  obtain ⟨o9, eo9, e⟩ := ce_bd e
  refine ce_callV (As := [.ref (aK 1)]) (rest := []) C (ce_sok aK aV B0) hH (c6_takeWord l D ad cA aK aV B0 C.2.2.2.2.2.2.1 F 1 (by decide) o3 o9 eo9) lo_1.1 lo_1.2.choose_spec rfl rfl mc6_takeWord ml_8_63 mi6_takeWord ms6_takeWord mI_6 (n := 1) (by decide) rfl ⟨Nat.le_of_ble_eq_true rfl, Nat.le_of_ble_eq_true rfl⟩ ⟨Nat.le_of_ble_eq_true rfl, Nat.le_of_ble_eq_true rfl⟩ hl.1 rfl (Nat.le_of_ble_eq_true rfl) d8_readBus_9 (fun H locs hH => ?_)
  refine W.eq (g2 := F0 m 12 ls []) rfl ?_
  refine lv_aload_n hx hb d8_readBus_12 rfl (lv_at hl 2 rfl) ?_
  refine lv_aload_n hx hb d8_readBus_13 rfl (lv_at hl 1 rfl) ?_
  refine lv_iconst (v := (0 : Int32)) hx hb d8_readBus_14 (by decide) ?_
  refine lv_bipush (v := (20 : Int32)) hx hb d8_readBus_15 (by decide) ?_
  obtain ⟨o17, eo17, e⟩ := ce_bd e
  refine ce_callV (As := [.int (0 : Int32), .int (20 : Int32)]) (rest := [.ref (ad k2)]) C (ce_sok aK aV B0) hH (c6_takeNumber l D ad cA aK aV B0 C.2.2.2.2.2.2.1 F (0 : Int32) (20 : Int32)  o9 o17 eo17) lo_1.1 lo_1.2.choose_spec rfl rfl mc6_takeNumber ml_8_69 mi6_takeNumber ms6_takeNumber mI_6 (n := 2) (by decide) rfl ⟨Nat.le_of_ble_eq_true rfl, Nat.le_of_ble_eq_true rfl⟩ ⟨Nat.le_of_ble_eq_true rfl, Nat.le_of_ble_eq_true rfl⟩ hl.1 rfl (Nat.le_of_ble_eq_true rfl) d8_readBus_17 (fun H locs hH => ?_)
  refine W.eq (g2 := F0 m 20 ls [.int o17.1, .ref (ad k2)]) rfl ?_
  refine pf_8_73 C hH hk2 d8_readBus_20 (fun H locs hH => ?_)
  obtain ⟨h_20, eh_20, e⟩ := ce_nmE e
  rw [← eh_20] at hH
  refine lv_aload_n hx hb d8_readBus_23 rfl (lv_at hl 1 rfl) ?_
  refine va_ldcS hx hb C.2.2.2.1 (ce_srR C.2.2.2.2.2.2.2.2.2.2 2 rfl) d8_readBus_24 ?_
  obtain ⟨o26, eo26, e⟩ := ce_bd e
  refine ce_callV (As := [.ref (aK 2)]) (rest := []) C (ce_sok aK aV B0) hH (c6_takeWord l D ad cA aK aV B0 C.2.2.2.2.2.2.1 F 2 (by decide) h_20 o26 eo26) lo_1.1 lo_1.2.choose_spec rfl rfl mc6_takeWord ml_8_63 mi6_takeWord ms6_takeWord mI_6 (n := 1) (by decide) rfl ⟨Nat.le_of_ble_eq_true rfl, Nat.le_of_ble_eq_true rfl⟩ ⟨Nat.le_of_ble_eq_true rfl, Nat.le_of_ble_eq_true rfl⟩ hl.1 rfl (Nat.le_of_ble_eq_true rfl) d8_readBus_26 (fun H locs hH => ?_)
  refine W.eq (g2 := F0 m 29 ls []) rfl ?_
  refine lv_aload_n hx hb d8_readBus_29 rfl (lv_at hl 2 rfl) ?_
  refine lv_aload_n hx hb d8_readBus_30 rfl (lv_at hl 1 rfl) ?_
  refine lv_iconst (v := (0 : Int32)) hx hb d8_readBus_31 (by decide) ?_
  refine lv_bipush (v := (9 : Int32)) hx hb d8_readBus_32 (by decide) ?_
  obtain ⟨o34, eo34, e⟩ := ce_bd e
  refine ce_callV (As := [.int (0 : Int32), .int (9 : Int32)]) (rest := [.ref (ad k2)]) C (ce_sok aK aV B0) hH (c6_takeNumber l D ad cA aK aV B0 C.2.2.2.2.2.2.1 F (0 : Int32) (9 : Int32)  o26 o34 eo34) lo_1.1 lo_1.2.choose_spec rfl rfl mc6_takeNumber ml_8_69 mi6_takeNumber ms6_takeNumber mI_6 (n := 2) (by decide) rfl ⟨Nat.le_of_ble_eq_true rfl, Nat.le_of_ble_eq_true rfl⟩ ⟨Nat.le_of_ble_eq_true rfl, Nat.le_of_ble_eq_true rfl⟩ hl.1 rfl (Nat.le_of_ble_eq_true rfl) d8_readBus_34 (fun H locs hH => ?_)
  refine W.eq (g2 := F0 m 37 ls [.int o34.1, .ref (ad k2)]) rfl ?_
  refine pf_8_77 C hH hk2 d8_readBus_37 (fun H locs hH => ?_)
  obtain ⟨h_37, eh_37, e⟩ := ce_nmE e
  rw [← eh_37] at hH
  exact ce_vret C (ce_sok aK aV B0) hH (Option.some.inj e) d8_readBus_40
abbrev b8_isReserved : ByteArray := prog_10_method_6_code
def y8_isReserved : MethodName := ⟨cn_8, "isReserved", "(LCableElection$Reading;)Z"⟩
theorem d8_isReserved_0 : decode b8_isReserved 0 = .ok (.aload_n 0, 1) := by decide +kernel
theorem d8_isReserved_1 : decode b8_isReserved 1 = .ok (.ldc 61, 2) := by decide +kernel
theorem d8_isReserved_3 : decode b8_isReserved 3 = .ok (.invokevirtual 38, 3) := by decide +kernel
theorem d8_isReserved_6 : decode b8_isReserved 6 = .ok (.ifCond .ne 39, 3) := by decide +kernel
theorem d8_isReserved_9 : decode b8_isReserved 9 = .ok (.aload_n 0, 1) := by decide +kernel
theorem d8_isReserved_10 : decode b8_isReserved 10 = .ok (.ldc 36, 2) := by decide +kernel
theorem d8_isReserved_12 : decode b8_isReserved 12 = .ok (.invokevirtual 38, 3) := by decide +kernel
theorem d8_isReserved_15 : decode b8_isReserved 15 = .ok (.ifCond .ne 30, 3) := by decide +kernel
theorem d8_isReserved_18 : decode b8_isReserved 18 = .ok (.aload_n 0, 1) := by decide +kernel
theorem d8_isReserved_19 : decode b8_isReserved 19 = .ok (.ldc 45, 2) := by decide +kernel
theorem d8_isReserved_21 : decode b8_isReserved 21 = .ok (.invokevirtual 38, 3) := by decide +kernel
theorem d8_isReserved_24 : decode b8_isReserved 24 = .ok (.ifCond .ne 21, 3) := by decide +kernel
theorem d8_isReserved_27 : decode b8_isReserved 27 = .ok (.aload_n 0, 1) := by decide +kernel
theorem d8_isReserved_28 : decode b8_isReserved 28 = .ok (.ldc 120, 2) := by decide +kernel
theorem d8_isReserved_30 : decode b8_isReserved 30 = .ok (.invokevirtual 38, 3) := by decide +kernel
theorem d8_isReserved_33 : decode b8_isReserved 33 = .ok (.ifCond .ne 12, 3) := by decide +kernel
theorem d8_isReserved_36 : decode b8_isReserved 36 = .ok (.aload_n 0, 1) := by decide +kernel
theorem d8_isReserved_37 : decode b8_isReserved 37 = .ok (.ldc 122, 2) := by decide +kernel
theorem d8_isReserved_39 : decode b8_isReserved 39 = .ok (.invokevirtual 38, 3) := by decide +kernel
theorem d8_isReserved_42 : decode b8_isReserved 42 = .ok (.ifCond .eq 7, 3) := by decide +kernel
theorem d8_isReserved_45 : decode b8_isReserved 45 = .ok (.iconst 1, 1) := by decide +kernel
theorem d8_isReserved_46 : decode b8_isReserved 46 = .ok (.goto 4, 3) := by decide +kernel
theorem d8_isReserved_49 : decode b8_isReserved 49 = .ok (.iconst 0, 1) := by decide +kernel
theorem d8_isReserved_50 : decode b8_isReserved 50 = .ok (.ireturn, 1) := by decide +kernel
theorem ml_8_38 : Cond.methodLink cn_8 38 y6_isWord ∈ ce_cm := ce_cm_of (List.mem_of_getElem? (i := 603) (by decide +kernel)) (by decide +kernel)
def f8_isReserved (F : Nat)  (h : Hp) : Option (Int32 × Hp) :=
  Option.bind (f6_isWord F 0 h) (fun o3 =>
    if o3.1 = 0 then
      Option.bind (f6_isWord F 3 o3.2) (fun o12 =>
        if o12.1 = 0 then
          Option.bind (f6_isWord F 4 o12.2) (fun o21 =>
            if o21.1 = 0 then
              Option.bind (f6_isWord F 5 o21.2) (fun o30 =>
                if o30.1 = 0 then
                  Option.bind (f6_isWord F 6 o30.2) (fun o39 =>
                    if o39.1 = 0 then
                      some ((0 : Int32), o39.2)
                    else
                      some ((1 : Int32), o39.2))
                else
                  some ((1 : Int32), o30.2))
            else
              some ((1 : Int32), o21.2))
        else
          some ((1 : Int32), o12.2))
    else
      some ((1 : Int32), o3.2))
set_option maxRecDepth 20000 in
theorem c8_isReserved (l : Launch) (D : va_G) (ad : Nat → Nat) (cA : Nat → ClassId) (aK aV : Nat → Nat) (B0 : Nat) (hA : ce_Ad ad B0) (F : Nat)   (h : Hp) (r : Int32 × Hp) (e : f8_isReserved F  h = some r) : ce_Ct l D ad cA B0 (ce_St aK aV B0) y8_isReserved b8_isReserved 1 (some .boolean) 10 243 0 0 [.ref (ad 1)] h (some (.int r.1)) r.2 := by
  refine ce_enter hA (by decide) rfl (Nat.le_of_ble_eq_true rfl) (fun p e0 s m below meth c ls C hH hl => ?_)
  have hl : lv_has ls 1 [(0, .ref (ad 1))] := hl
  have hx := C.1
  have hb := C.2.1
  have e : Option.bind _ some = some r := (congrArg (fun z => Option.bind z some) e).trans rfl
  unfold f8_isReserved at e
  refine lv_aload_n hx hb d8_isReserved_0 rfl (lv_at hl 0 rfl) ?_
  refine va_ldcS hx hb C.2.2.2.1 (ce_srR C.2.2.2.2.2.2.2.2.2.2 0 rfl) d8_isReserved_1 ?_
  obtain ⟨o3, eo3, e⟩ := ce_bd e
  refine ce_callV (As := [.ref (aK 0)]) (rest := []) C (ce_sok aK aV B0) hH (c6_isWord l D ad cA aK aV B0 C.2.2.2.2.2.2.1 F 0 (by decide) h o3 eo3) lo_1.1 lo_1.2.choose_spec rfl rfl mc6_isWord ml_8_38 mi6_isWord ms6_isWord mI_6 (n := 1) (by decide) rfl ⟨Nat.le_of_ble_eq_true rfl, Nat.le_of_ble_eq_true rfl⟩ ⟨Nat.le_of_ble_eq_true rfl, Nat.le_of_ble_eq_true rfl⟩ hl.1 rfl (Nat.le_of_ble_eq_true rfl) d8_isReserved_3 (fun H locs hH => ?_)
  refine W.eq (g2 := F0 m 6 ls [.int o3.1]) rfl ?_
  refine lv_if_ne (tgt := 45) hx hb d8_isReserved_6 (by decide) (fun hc6 => ?_) (fun hc6 => ?_)
  · have e := ce_if0 e hc6
    refine lv_iconst (v := (1 : Int32)) hx hb d8_isReserved_45 (by decide) ?_
    refine lv_goto (tgt := 50) hx hb d8_isReserved_46 (by decide) ?_
    exact ce_zretE C (ce_sok aK aV B0) hH (Or.inr rfl) e d8_isReserved_50
  · have e := ce_if1 e hc6
    refine lv_aload_n hx hb d8_isReserved_9 rfl (lv_at hl 0 rfl) ?_
    refine va_ldcS hx hb C.2.2.2.1 (ce_srR C.2.2.2.2.2.2.2.2.2.2 3 rfl) d8_isReserved_10 ?_
    obtain ⟨o12, eo12, e⟩ := ce_bd e
    refine ce_callV (As := [.ref (aK 3)]) (rest := []) C (ce_sok aK aV B0) hH (c6_isWord l D ad cA aK aV B0 C.2.2.2.2.2.2.1 F 3 (by decide) o3.2 o12 eo12) lo_1.1 lo_1.2.choose_spec rfl rfl mc6_isWord ml_8_38 mi6_isWord ms6_isWord mI_6 (n := 1) (by decide) rfl ⟨Nat.le_of_ble_eq_true rfl, Nat.le_of_ble_eq_true rfl⟩ ⟨Nat.le_of_ble_eq_true rfl, Nat.le_of_ble_eq_true rfl⟩ hl.1 rfl (Nat.le_of_ble_eq_true rfl) d8_isReserved_12 (fun H locs hH => ?_)
    refine W.eq (g2 := F0 m 15 ls [.int o12.1]) rfl ?_
    refine lv_if_ne (tgt := 45) hx hb d8_isReserved_15 (by decide) (fun hc15 => ?_) (fun hc15 => ?_)
    · have e := ce_if0 e hc15
      refine lv_iconst (v := (1 : Int32)) hx hb d8_isReserved_45 (by decide) ?_
      refine lv_goto (tgt := 50) hx hb d8_isReserved_46 (by decide) ?_
      exact ce_zretE C (ce_sok aK aV B0) hH (Or.inr rfl) e d8_isReserved_50
    · have e := ce_if1 e hc15
      refine lv_aload_n hx hb d8_isReserved_18 rfl (lv_at hl 0 rfl) ?_
      refine va_ldcS hx hb C.2.2.2.1 (ce_srR C.2.2.2.2.2.2.2.2.2.2 4 rfl) d8_isReserved_19 ?_
      obtain ⟨o21, eo21, e⟩ := ce_bd e
      refine ce_callV (As := [.ref (aK 4)]) (rest := []) C (ce_sok aK aV B0) hH (c6_isWord l D ad cA aK aV B0 C.2.2.2.2.2.2.1 F 4 (by decide) o12.2 o21 eo21) lo_1.1 lo_1.2.choose_spec rfl rfl mc6_isWord ml_8_38 mi6_isWord ms6_isWord mI_6 (n := 1) (by decide) rfl ⟨Nat.le_of_ble_eq_true rfl, Nat.le_of_ble_eq_true rfl⟩ ⟨Nat.le_of_ble_eq_true rfl, Nat.le_of_ble_eq_true rfl⟩ hl.1 rfl (Nat.le_of_ble_eq_true rfl) d8_isReserved_21 (fun H locs hH => ?_)
      refine W.eq (g2 := F0 m 24 ls [.int o21.1]) rfl ?_
      refine lv_if_ne (tgt := 45) hx hb d8_isReserved_24 (by decide) (fun hc24 => ?_) (fun hc24 => ?_)
      · have e := ce_if0 e hc24
        refine lv_iconst (v := (1 : Int32)) hx hb d8_isReserved_45 (by decide) ?_
        refine lv_goto (tgt := 50) hx hb d8_isReserved_46 (by decide) ?_
        exact ce_zretE C (ce_sok aK aV B0) hH (Or.inr rfl) e d8_isReserved_50
      · have e := ce_if1 e hc24
        refine lv_aload_n hx hb d8_isReserved_27 rfl (lv_at hl 0 rfl) ?_
        refine va_ldcS hx hb C.2.2.2.1 (ce_srR C.2.2.2.2.2.2.2.2.2.2 5 rfl) d8_isReserved_28 ?_
        obtain ⟨o30, eo30, e⟩ := ce_bd e
        refine ce_callV (As := [.ref (aK 5)]) (rest := []) C (ce_sok aK aV B0) hH (c6_isWord l D ad cA aK aV B0 C.2.2.2.2.2.2.1 F 5 (by decide) o21.2 o30 eo30) lo_1.1 lo_1.2.choose_spec rfl rfl mc6_isWord ml_8_38 mi6_isWord ms6_isWord mI_6 (n := 1) (by decide) rfl ⟨Nat.le_of_ble_eq_true rfl, Nat.le_of_ble_eq_true rfl⟩ ⟨Nat.le_of_ble_eq_true rfl, Nat.le_of_ble_eq_true rfl⟩ hl.1 rfl (Nat.le_of_ble_eq_true rfl) d8_isReserved_30 (fun H locs hH => ?_)
        refine W.eq (g2 := F0 m 33 ls [.int o30.1]) rfl ?_
        refine lv_if_ne (tgt := 45) hx hb d8_isReserved_33 (by decide) (fun hc33 => ?_) (fun hc33 => ?_)
        · have e := ce_if0 e hc33
          refine lv_iconst (v := (1 : Int32)) hx hb d8_isReserved_45 (by decide) ?_
          refine lv_goto (tgt := 50) hx hb d8_isReserved_46 (by decide) ?_
          exact ce_zretE C (ce_sok aK aV B0) hH (Or.inr rfl) e d8_isReserved_50
        · have e := ce_if1 e hc33
          refine lv_aload_n hx hb d8_isReserved_36 rfl (lv_at hl 0 rfl) ?_
          refine va_ldcS hx hb C.2.2.2.1 (ce_srR C.2.2.2.2.2.2.2.2.2.2 6 rfl) d8_isReserved_37 ?_
          obtain ⟨o39, eo39, e⟩ := ce_bd e
          refine ce_callV (As := [.ref (aK 6)]) (rest := []) C (ce_sok aK aV B0) hH (c6_isWord l D ad cA aK aV B0 C.2.2.2.2.2.2.1 F 6 (by decide) o30.2 o39 eo39) lo_1.1 lo_1.2.choose_spec rfl rfl mc6_isWord ml_8_38 mi6_isWord ms6_isWord mI_6 (n := 1) (by decide) rfl ⟨Nat.le_of_ble_eq_true rfl, Nat.le_of_ble_eq_true rfl⟩ ⟨Nat.le_of_ble_eq_true rfl, Nat.le_of_ble_eq_true rfl⟩ hl.1 rfl (Nat.le_of_ble_eq_true rfl) d8_isReserved_39 (fun H locs hH => ?_)
          refine W.eq (g2 := F0 m 42 ls [.int o39.1]) rfl ?_
          refine lv_if_eq (tgt := 49) hx hb d8_isReserved_42 (by decide) (fun hc42 => ?_) (fun hc42 => ?_)
          · have e := ce_if1 e hc42
            refine lv_iconst (v := (0 : Int32)) hx hb d8_isReserved_49 (by decide) ?_
            exact ce_zretE C (ce_sok aK aV B0) hH (Or.inl rfl) e d8_isReserved_50
          · have e := ce_if0 e hc42
            refine lv_iconst (v := (1 : Int32)) hx hb d8_isReserved_45 (by decide) ?_
            refine lv_goto (tgt := 50) hx hb d8_isReserved_46 (by decide) ?_
            exact ce_zretE C (ce_sok aK aV B0) hH (Or.inr rfl) e d8_isReserved_50
abbrev b8_isNameHere : ByteArray := prog_10_method_8_code
def y8_isNameHere : MethodName := ⟨cn_8, "isNameHere", "(LCableElection$Reading;I)Z"⟩
theorem d8_isNameHere_0 : decode b8_isNameHere 0 = .ok (.aload_n 1, 1) := by decide +kernel
theorem d8_isNameHere_1 : decode b8_isNameHere 1 = .ok (.getfield 103, 3) := by decide +kernel
theorem d8_isNameHere_4 : decode b8_isNameHere 4 = .ok (.aload_n 1, 1) := by decide +kernel
theorem d8_isNameHere_5 : decode b8_isNameHere 5 = .ok (.getfield 106, 3) := by decide +kernel
theorem d8_isNameHere_8 : decode b8_isNameHere 8 = .ok (.isub, 1) := by decide +kernel
theorem d8_isNameHere_9 : decode b8_isNameHere 9 = .ok (.aload_n 0, 1) := by decide +kernel
theorem d8_isNameHere_10 : decode b8_isNameHere 10 = .ok (.getfield 15, 3) := by decide +kernel
theorem d8_isNameHere_13 : decode b8_isNameHere 13 = .ok (.iload_n 2, 1) := by decide +kernel
theorem d8_isNameHere_14 : decode b8_isNameHere 14 = .ok (.iaload, 1) := by decide +kernel
theorem d8_isNameHere_15 : decode b8_isNameHere 15 = .ok (.if_icmp .eq 5, 3) := by decide +kernel
theorem d8_isNameHere_18 : decode b8_isNameHere 18 = .ok (.iconst 0, 1) := by decide +kernel
theorem d8_isNameHere_19 : decode b8_isNameHere 19 = .ok (.ireturn, 1) := by decide +kernel
theorem d8_isNameHere_20 : decode b8_isNameHere 20 = .ok (.iconst 0, 1) := by decide +kernel
theorem d8_isNameHere_21 : decode b8_isNameHere 21 = .ok (.istore_n 3, 1) := by decide +kernel
theorem d8_isNameHere_22 : decode b8_isNameHere 22 = .ok (.iload_n 3, 1) := by decide +kernel
theorem d8_isNameHere_23 : decode b8_isNameHere 23 = .ok (.aload_n 0, 1) := by decide +kernel
theorem d8_isNameHere_24 : decode b8_isNameHere 24 = .ok (.getfield 15, 3) := by decide +kernel
theorem d8_isNameHere_27 : decode b8_isNameHere 27 = .ok (.iload_n 2, 1) := by decide +kernel
theorem d8_isNameHere_28 : decode b8_isNameHere 28 = .ok (.iaload, 1) := by decide +kernel
theorem d8_isNameHere_29 : decode b8_isNameHere 29 = .ok (.if_icmp .ge 42, 3) := by decide +kernel
theorem d8_isNameHere_32 : decode b8_isNameHere 32 = .ok (.aload_n 1, 1) := by decide +kernel
theorem d8_isNameHere_33 : decode b8_isNameHere 33 = .ok (.getfield 128, 3) := by decide +kernel
theorem d8_isNameHere_36 : decode b8_isNameHere 36 = .ok (.aload_n 1, 1) := by decide +kernel
theorem d8_isNameHere_37 : decode b8_isNameHere 37 = .ok (.getfield 106, 3) := by decide +kernel
theorem d8_isNameHere_40 : decode b8_isNameHere 40 = .ok (.iload_n 3, 1) := by decide +kernel
theorem d8_isNameHere_41 : decode b8_isNameHere 41 = .ok (.iadd, 1) := by decide +kernel
theorem d8_isNameHere_42 : decode b8_isNameHere 42 = .ok (.invokevirtual 132, 3) := by decide +kernel
theorem d8_isNameHere_45 : decode b8_isNameHere 45 = .ok (.aload_n 1, 1) := by decide +kernel
theorem d8_isNameHere_46 : decode b8_isNameHere 46 = .ok (.getfield 128, 3) := by decide +kernel
theorem d8_isNameHere_49 : decode b8_isNameHere 49 = .ok (.aload_n 0, 1) := by decide +kernel
theorem d8_isNameHere_50 : decode b8_isNameHere 50 = .ok (.getfield 9, 3) := by decide +kernel
theorem d8_isNameHere_53 : decode b8_isNameHere 53 = .ok (.iload_n 2, 1) := by decide +kernel
theorem d8_isNameHere_54 : decode b8_isNameHere 54 = .ok (.iaload, 1) := by decide +kernel
theorem d8_isNameHere_55 : decode b8_isNameHere 55 = .ok (.iload_n 3, 1) := by decide +kernel
theorem d8_isNameHere_56 : decode b8_isNameHere 56 = .ok (.iadd, 1) := by decide +kernel
theorem d8_isNameHere_57 : decode b8_isNameHere 57 = .ok (.invokevirtual 132, 3) := by decide +kernel
theorem d8_isNameHere_60 : decode b8_isNameHere 60 = .ok (.if_icmp .eq 5, 3) := by decide +kernel
theorem d8_isNameHere_63 : decode b8_isNameHere 63 = .ok (.iconst 0, 1) := by decide +kernel
theorem d8_isNameHere_64 : decode b8_isNameHere 64 = .ok (.ireturn, 1) := by decide +kernel
theorem d8_isNameHere_65 : decode b8_isNameHere 65 = .ok (.iinc 3 1, 3) := by decide +kernel
theorem d8_isNameHere_68 : decode b8_isNameHere 68 = .ok (.goto (-46), 3) := by decide +kernel
theorem d8_isNameHere_71 : decode b8_isNameHere 71 = .ok (.iconst 1, 1) := by decide +kernel
theorem d8_isNameHere_72 : decode b8_isNameHere 72 = .ok (.ireturn, 1) := by decide +kernel
theorem fl_8_103 : Cond.fieldLink cn_8 103 (ft_6 3).1 (ft_6 3).2.1 (ft_6 3).2.2.1 ∈ ce_cm := ce_cm_of (List.mem_of_getElem? (i := 151) (by decide +kernel)) (by decide +kernel)
theorem gf_8_103 (C : ce_Cx p s m args c meth cc nL ret cn_8 D ad cA B0 (ce_St aK aV B0)) (hH : ce_H D ad cA B0 X s h H locs) (hdg : decode cc pc = .ok (.getfield 103, 3)) (kk : W p l e0 R s m args below meth c H locs cells slots Q (F0 m (pc + 3) ls (.int (h 1 3) :: rest))) : W p l e0 R s m args below meth c H locs cells slots Q (F0 m pc ls (.ref (ad 1) :: rest)) := by
  exact ce_get C hH (k := 1) (ci := 6) (j := 3) (N := 6) (sj := none) (by decide) rfl rfl fw_6 (by decide) fl_8_103 rfl hdg kk
theorem pf_8_103 (C : ce_Cx p s m args c meth cc nL ret cn_8 D ad cA B0 (ce_St aK aV B0)) (hH : ce_H D ad cA B0 X s h H locs) {x : Int32} (hdg : decode cc pc = .ok (.putfield 103, 3)) (kk : ∀ (H1 : Heap) (locs1 : List Loc), ce_H D ad cA B0 X s (hp_up h 1 3 x) H1 locs1 → W p l e0 R s m args below meth c H1 locs1 cells slots Q (F0 m (pc + 3) ls rest)) : W p l e0 R s m args below meth c H locs cells slots Q (F0 m pc ls (.int x :: .ref (ad 1) :: rest)) := by
  exact ce_put C hH (k := 1) (ci := 6) (j := 3) (N := 6) (fy := fy_6) (sj := none) x (by decide) rfl rfl fw_6 fo_6 fn_6 (by decide) fl_8_103 rfl rfl (v := .int x) (by simp [ce_slot, upd]) rfl rfl hdg kk
theorem fl_8_106 : Cond.fieldLink cn_8 106 (ft_6 2).1 (ft_6 2).2.1 (ft_6 2).2.2.1 ∈ ce_cm := ce_cm_of (List.mem_of_getElem? (i := 148) (by decide +kernel)) (by decide +kernel)
theorem gf_8_106 (C : ce_Cx p s m args c meth cc nL ret cn_8 D ad cA B0 (ce_St aK aV B0)) (hH : ce_H D ad cA B0 X s h H locs) (hdg : decode cc pc = .ok (.getfield 106, 3)) (kk : W p l e0 R s m args below meth c H locs cells slots Q (F0 m (pc + 3) ls (.int (h 1 2) :: rest))) : W p l e0 R s m args below meth c H locs cells slots Q (F0 m pc ls (.ref (ad 1) :: rest)) := by
  exact ce_get C hH (k := 1) (ci := 6) (j := 2) (N := 6) (sj := none) (by decide) rfl rfl fw_6 (by decide) fl_8_106 rfl hdg kk
theorem pf_8_106 (C : ce_Cx p s m args c meth cc nL ret cn_8 D ad cA B0 (ce_St aK aV B0)) (hH : ce_H D ad cA B0 X s h H locs) {x : Int32} (hdg : decode cc pc = .ok (.putfield 106, 3)) (kk : ∀ (H1 : Heap) (locs1 : List Loc), ce_H D ad cA B0 X s (hp_up h 1 2 x) H1 locs1 → W p l e0 R s m args below meth c H1 locs1 cells slots Q (F0 m (pc + 3) ls rest)) : W p l e0 R s m args below meth c H locs cells slots Q (F0 m pc ls (.int x :: .ref (ad 1) :: rest)) := by
  exact ce_put C hH (k := 1) (ci := 6) (j := 2) (N := 6) (fy := fy_6) (sj := none) x (by decide) rfl rfl fw_6 fo_6 fn_6 (by decide) fl_8_106 rfl rfl (v := .int x) (by simp [ce_slot, upd]) rfl rfl hdg kk
theorem fl_8_15 : Cond.fieldLink cn_8 15 (ft_8 1).1 (ft_8 1).2.1 (ft_8 1).2.2.1 ∈ ce_cm := ce_cm_of (List.mem_of_getElem? (i := 176) (by decide +kernel)) (by decide +kernel)
theorem gf_8_15 (C : ce_Cx p s m args c meth cc nL ret cn_8 D ad cA B0 (ce_St aK aV B0)) (hH : ce_H D ad cA B0 X s h H locs) (hdg : decode cc pc = .ok (.getfield 15, 3)) (kk : W p l e0 R s m args below meth c H locs cells slots Q (F0 m (pc + 3) ls (.ref (ad 6) :: rest))) : W p l e0 R s m args below meth c H locs cells slots Q (F0 m pc ls (.ref (ad 4) :: rest)) := by
  exact ce_get C hH (k := 4) (ci := 8) (j := 1) (N := 2) (sj := some (some 6)) (by decide) rfl rfl fw_8 (by decide) fl_8_15 rfl hdg kk
theorem lc_6 : 6 < 96 ∧ ce_lay 6 = .inl (0, 10) := ⟨by decide, rfl⟩
theorem fl_8_128 : Cond.fieldLink cn_8 128 (ft_6 0).1 (ft_6 0).2.1 (ft_6 0).2.2.1 ∈ ce_cm := ce_cm_of (List.mem_of_getElem? (i := 142) (by decide +kernel)) (by decide +kernel)
theorem gf_8_128 (C : ce_Cx p s m args c meth cc nL ret cn_8 D ad cA B0 (ce_St aK aV B0)) (hH : ce_H D ad cA B0 X s h H locs) (hdg : decode cc pc = .ok (.getfield 128, 3)) (kk : W p l e0 R s m args below meth c H locs cells slots Q (F0 m (pc + 3) ls (.ref (ad 2) :: rest))) : W p l e0 R s m args below meth c H locs cells slots Q (F0 m pc ls (.ref (ad 1) :: rest)) := by
  exact ce_get C hH (k := 1) (ci := 6) (j := 0) (N := 6) (sj := some (some 2)) (by decide) rfl rfl fw_6 (by decide) fl_8_128 rfl hdg kk
theorem fl_8_9 : Cond.fieldLink cn_8 9 (ft_8 0).1 (ft_8 0).2.1 (ft_8 0).2.2.1 ∈ ce_cm := ce_cm_of (List.mem_of_getElem? (i := 175) (by decide +kernel)) (by decide +kernel)
theorem gf_8_9 (C : ce_Cx p s m args c meth cc nL ret cn_8 D ad cA B0 (ce_St aK aV B0)) (hH : ce_H D ad cA B0 X s h H locs) (hdg : decode cc pc = .ok (.getfield 9, 3)) (kk : W p l e0 R s m args below meth c H locs cells slots Q (F0 m (pc + 3) ls (.ref (ad 5) :: rest))) : W p l e0 R s m args below meth c H locs cells slots Q (F0 m pc ls (.ref (ad 4) :: rest)) := by
  exact ce_get C hH (k := 4) (ci := 8) (j := 0) (N := 2) (sj := some (some 5)) (by decide) rfl rfl fw_8 (by decide) fl_8_9 rfl hdg kk
theorem lc_5 : 5 < 96 ∧ ce_lay 5 = .inl (0, 10) := ⟨by decide, rfl⟩
theorem ml_8_132 : Cond.methodLink cn_8 132 y7_byteAt ∈ ce_cm := ce_cm_of (List.mem_of_getElem? (i := 627) (by decide +kernel)) (by decide +kernel)
def f8_isNameHere_b22 (F : Nat) (x2 : Int32) (x3 : Int32) (h : Hp) : Option ((Int32 × Hp) ⊕ ((Int32 × Hp) ⊕ (Hp))) :=
  if ce_in x2 10 = true then
    if (h 6 (x2).toNatClampNeg) ≤ x3 then
      some (.inr (.inr h))
    else
      Option.bind (f7_byteAt F ((h 1 2) + x3) h) (fun o42 =>
        if ce_in x2 10 = true then
          Option.bind (f7_byteAt F ((o42.2 5 (x2).toNatClampNeg) + x3) o42.2) (fun o57 =>
            if o42.1 = o57.1 then
              some (.inl (x3 + (1 : Int32), o57.2))
            else
              some (.inr (.inl ((0 : Int32), o57.2))))
        else none)
  else none
set_option maxRecDepth 20000 in
theorem l8_isNameHere_22 (C : ce_Cx p s m args c meth b8_isNameHere 4 (some .boolean) cn_8 D ad cA B0 (ce_St aK aV B0)) (F : Nat) (x2 : Int32)  (r : Int32 × Hp) (g : ((Int32 × Hp) ⊕ (Hp)) → Option (Int32 × Hp)) (hx : ∀  (h : Hp) (H : Heap) (locs : List Loc) (ls : Array Slot), ce_H D ad cA B0 [] s h H locs → lv_has ls 4 [] → g (.inr h) = some r → W p l e0 { frames := 1, cells := 0, slots := 0, locals := 21 } s m args below meth c H locs 0 0 (MQ below (ce_Q D ad cA B0 (ce_St aK aV B0) (some (.int r.1)) r.2) args s 0 0 (fun q => B0 ≤ q)) (F0 m 71 ls [])) (he : ∀ z, g (.inl z) = some z) : ∀ (n : Nat) (x3 : Int32) (h : Hp) (H : Heap) (locs : List Loc) (ls : Array Slot), ce_H D ad cA B0 [] s h H locs → lv_has ls 4 [(0, .ref (ad 4)), (1, .ref (ad 1)), (2, .int x2), (3, .int x3)] → Option.bind (ce_it (fun (st : Int32 × Hp) => f8_isNameHere_b22 F x2 st.1 st.2) n (x3, h)) g = some r → W p l e0 { frames := 1, cells := 0, slots := 0, locals := 21 } s m args below meth c H locs 0 0 (MQ below (ce_Q D ad cA B0 (ce_St aK aV B0) (some (.int r.1)) r.2) args s 0 0 (fun q => B0 ≤ q)) (F0 m 22 ls []) := by
  intro n
  induction n with
  | zero =>
    intro x3 h H locs ls hH hl e
    exact absurd e (fun z => by cases z)
  | succ n ih =>
    intro x3 h H locs ls hH hl e
    have hx9 := C.1
    have hb := C.2.1
    have e : Option.bind (f8_isNameHere_b22 F x2 x3 h) _ = some r := ce_it_bd e
    unfold f8_isNameHere_b22 at e
    refine lv_iload_n hx9 hb d8_isNameHere_22 rfl (lv_at hl 3 rfl) ?_
    refine lv_aload_n hx9 hb d8_isNameHere_23 rfl (lv_at hl 0 rfl) ?_
    refine gf_8_15 C hH d8_isNameHere_24 ?_
    refine lv_iload_n hx9 hb d8_isNameHere_27 rfl (lv_at hl 2 rfl) ?_
    obtain ⟨hi28, e⟩ := ce_gd e
    refine ce_iald C hH lc_6.1 lc_6.2 (ce_in_vp hi28) d8_isNameHere_28 ?_
    refine lv_icmp_ge (tgt := 71) hx9 hb d8_isNameHere_29 (by decide) (fun hc29 => ?_) (fun hc29 => ?_)
    · have e := ce_if1 e hc29
      exact hx  h _ _ _ hH (lv_sub hl [] rfl) e
    · have e := ce_if0 e hc29
      refine lv_aload_n hx9 hb d8_isNameHere_32 rfl (lv_at hl 1 rfl) ?_
      refine gf_8_128 C hH d8_isNameHere_33 ?_
      refine lv_aload_n hx9 hb d8_isNameHere_36 rfl (lv_at hl 1 rfl) ?_
      refine gf_8_106 C hH d8_isNameHere_37 ?_
      refine lv_iload_n hx9 hb d8_isNameHere_40 rfl (lv_at hl 3 rfl) ?_
      refine lv_iadd hx9 hb d8_isNameHere_41 ?_
      obtain ⟨o42, eo42, e⟩ := ce_bd e
      refine ce_callV (As := [.int ((h 1 2) + x3)]) (rest := []) C (ce_sok aK aV B0) hH (c7_byteAt l D ad cA aK aV B0 C.2.2.2.2.2.2.1 F ((h 1 2) + x3)  h o42 eo42) lo_2.1 lo_2.2.choose_spec rfl rfl mc7_byteAt ml_8_132 mi7_byteAt ms7_byteAt mI_7 (n := 1) (by decide) rfl ⟨Nat.le_of_ble_eq_true rfl, Nat.le_of_ble_eq_true rfl⟩ ⟨Nat.le_of_ble_eq_true rfl, Nat.le_of_ble_eq_true rfl⟩ hl.1 rfl (Nat.le_of_ble_eq_true rfl) d8_isNameHere_42 (fun H locs hH => ?_)
      refine W.eq (g2 := F0 m 45 ls [.int o42.1]) rfl ?_
      refine lv_aload_n hx9 hb d8_isNameHere_45 rfl (lv_at hl 1 rfl) ?_
      refine gf_8_128 C hH d8_isNameHere_46 ?_
      refine lv_aload_n hx9 hb d8_isNameHere_49 rfl (lv_at hl 0 rfl) ?_
      refine gf_8_9 C hH d8_isNameHere_50 ?_
      refine lv_iload_n hx9 hb d8_isNameHere_53 rfl (lv_at hl 2 rfl) ?_
      obtain ⟨hi54, e⟩ := ce_gd e
      refine ce_iald C hH lc_5.1 lc_5.2 (ce_in_vp hi54) d8_isNameHere_54 ?_
      refine lv_iload_n hx9 hb d8_isNameHere_55 rfl (lv_at hl 3 rfl) ?_
      refine lv_iadd hx9 hb d8_isNameHere_56 ?_
      obtain ⟨o57, eo57, e⟩ := ce_bd e
      refine ce_callV (As := [.int ((o42.2 5 (x2).toNatClampNeg) + x3)]) (rest := [.int o42.1]) C (ce_sok aK aV B0) hH (c7_byteAt l D ad cA aK aV B0 C.2.2.2.2.2.2.1 F ((o42.2 5 (x2).toNatClampNeg) + x3)  o42.2 o57 eo57) lo_2.1 lo_2.2.choose_spec rfl rfl mc7_byteAt ml_8_132 mi7_byteAt ms7_byteAt mI_7 (n := 1) (by decide) rfl ⟨Nat.le_of_ble_eq_true rfl, Nat.le_of_ble_eq_true rfl⟩ ⟨Nat.le_of_ble_eq_true rfl, Nat.le_of_ble_eq_true rfl⟩ hl.1 rfl (Nat.le_of_ble_eq_true rfl) d8_isNameHere_57 (fun H locs hH => ?_)
      refine W.eq (g2 := F0 m 60 ls [.int o57.1, .int o42.1]) rfl ?_
      refine lv_icmp_eq (tgt := 65) hx9 hb d8_isNameHere_60 (by decide) (fun hc60 => ?_) (fun hc60 => ?_)
      · have e := ce_if1 e hc60
        refine lv_iinc (v := x3 + (1 : Int32)) (lv' := [(3, .int (x3 + (1 : Int32))), (0, .ref (ad 4)), (1, .ref (ad 1)), (2, .int x2)]) hx9 hb d8_isNameHere_65 hl (k := 3) rfl rfl (by decide) rfl (fun ls hl => ?_)
        refine lv_goto (tgt := 22) hx9 hb d8_isNameHere_68 (by decide) ?_
        exact ih (x3 + (1 : Int32)) o57.2 _ _ _ hH (lv_sub hl [1, 2, 3, 0] rfl) e
      · have e := ce_if0 e hc60
        refine lv_iconst (v := (0 : Int32)) hx9 hb d8_isNameHere_63 (by decide) ?_
        have e := (he _).symm.trans e
        exact ce_zretE C (ce_sok aK aV B0) hH (Or.inl rfl) e d8_isNameHere_64
def f8_isNameHere (F : Nat) (x2 : Int32) (h : Hp) : Option (Int32 × Hp) :=
  if ce_in x2 10 = true then
    if ((h 1 3) - (h 1 2)) = (h 6 (x2).toNatClampNeg) then
      Option.bind (ce_it (fun (st : Int32 × Hp) => f8_isNameHere_b22 F x2 st.1 st.2) F ((0 : Int32), h)) (fun o22w => match o22w with
        | .inl z => some z
        | .inr o22 =>
          some ((1 : Int32), o22))
    else
      some ((0 : Int32), h)
  else none
set_option maxRecDepth 20000 in
theorem c8_isNameHere (l : Launch) (D : va_G) (ad : Nat → Nat) (cA : Nat → ClassId) (aK aV : Nat → Nat) (B0 : Nat) (hA : ce_Ad ad B0) (F : Nat) (x2 : Int32)  (h : Hp) (r : Int32 × Hp) (e : f8_isNameHere F x2 h = some r) : ce_Ct l D ad cA B0 (ce_St aK aV B0) y8_isNameHere b8_isNameHere 4 (some .boolean) 1 21 0 0 [.ref (ad 4), .ref (ad 1), .int x2] h (some (.int r.1)) r.2 := by
  refine ce_enter hA (by decide) rfl (Nat.le_of_ble_eq_true rfl) (fun p e0 s m below meth c ls C hH hl => ?_)
  have hl : lv_has ls 4 [(0, .ref (ad 4)), (1, .ref (ad 1)), (2, .int x2)] := hl
  have hx := C.1
  have hb := C.2.1
  have e : Option.bind _ some = some r := (congrArg (fun z => Option.bind z some) e).trans rfl
  unfold f8_isNameHere at e
  refine lv_aload_n hx hb d8_isNameHere_0 rfl (lv_at hl 1 rfl) ?_
  refine gf_8_103 C hH d8_isNameHere_1 ?_
  refine lv_aload_n hx hb d8_isNameHere_4 rfl (lv_at hl 1 rfl) ?_
  refine gf_8_106 C hH d8_isNameHere_5 ?_
  refine lv_isub hx hb d8_isNameHere_8 ?_
  refine lv_aload_n hx hb d8_isNameHere_9 rfl (lv_at hl 0 rfl) ?_
  refine gf_8_15 C hH d8_isNameHere_10 ?_
  refine lv_iload_n hx hb d8_isNameHere_13 rfl (lv_at hl 2 rfl) ?_
  obtain ⟨hi14, e⟩ := ce_gd e
  refine ce_iald C hH lc_6.1 lc_6.2 (ce_in_vp hi14) d8_isNameHere_14 ?_
  refine lv_icmp_eq (tgt := 20) hx hb d8_isNameHere_15 (by decide) (fun hc15 => ?_) (fun hc15 => ?_)
  · have e := ce_if1 e hc15
    refine lv_iconst (v := (0 : Int32)) hx hb d8_isNameHere_20 (by decide) ?_
    refine lv_istore_n (lv' := [(3, .int (0 : Int32)), (0, .ref (ad 4)), (1, .ref (ad 1)), (2, .int x2)]) hx hb d8_isNameHere_21 rfl hl (by decide) rfl (fun ls hl => ?_)
    refine l8_isNameHere_22 C F x2  r _ (fun  h_22 H locs ls hH hl e => ?_) (fun z => rfl) F (0 : Int32) h _ _ _ hH (lv_sub hl [1, 2, 3, 0] rfl) (ce_as e)
    try dsimp only at e
    refine lv_iconst (v := (1 : Int32)) hx hb d8_isNameHere_71 (by decide) ?_
    exact ce_zretE C (ce_sok aK aV B0) hH (Or.inr rfl) e d8_isNameHere_72
  · have e := ce_if0 e hc15
    refine lv_iconst (v := (0 : Int32)) hx hb d8_isNameHere_18 (by decide) ?_
    exact ce_zretE C (ce_sok aK aV B0) hH (Or.inl rfl) e d8_isNameHere_19
abbrev b8_nodeNamedHere : ByteArray := prog_10_method_7_code
def y8_nodeNamedHere : MethodName := ⟨cn_8, "nodeNamedHere", "(LCableElection$Reading;LCableElection$Net;)I"⟩
theorem d8_nodeNamedHere_0 : decode b8_nodeNamedHere 0 = .ok (.iconst 0, 1) := by decide +kernel
theorem d8_nodeNamedHere_1 : decode b8_nodeNamedHere 1 = .ok (.istore_n 3, 1) := by decide +kernel
theorem d8_nodeNamedHere_2 : decode b8_nodeNamedHere 2 = .ok (.iload_n 3, 1) := by decide +kernel
theorem d8_nodeNamedHere_3 : decode b8_nodeNamedHere 3 = .ok (.aload_n 2, 1) := by decide +kernel
theorem d8_nodeNamedHere_4 : decode b8_nodeNamedHere 4 = .ok (.getfield 79, 3) := by decide +kernel
theorem d8_nodeNamedHere_7 : decode b8_nodeNamedHere 7 = .ok (.if_icmp .ge 20, 3) := by decide +kernel
theorem d8_nodeNamedHere_10 : decode b8_nodeNamedHere 10 = .ok (.aload_n 0, 1) := by decide +kernel
theorem d8_nodeNamedHere_11 : decode b8_nodeNamedHere 11 = .ok (.aload_n 1, 1) := by decide +kernel
theorem d8_nodeNamedHere_12 : decode b8_nodeNamedHere 12 = .ok (.iload_n 3, 1) := by decide +kernel
theorem d8_nodeNamedHere_13 : decode b8_nodeNamedHere 13 = .ok (.invokevirtual 124, 3) := by decide +kernel
theorem d8_nodeNamedHere_16 : decode b8_nodeNamedHere 16 = .ok (.ifCond .eq 5, 3) := by decide +kernel
theorem d8_nodeNamedHere_19 : decode b8_nodeNamedHere 19 = .ok (.iload_n 3, 1) := by decide +kernel
theorem d8_nodeNamedHere_20 : decode b8_nodeNamedHere 20 = .ok (.ireturn, 1) := by decide +kernel
theorem d8_nodeNamedHere_21 : decode b8_nodeNamedHere 21 = .ok (.iinc 3 1, 3) := by decide +kernel
theorem d8_nodeNamedHere_24 : decode b8_nodeNamedHere 24 = .ok (.goto (-22), 3) := by decide +kernel
theorem d8_nodeNamedHere_27 : decode b8_nodeNamedHere 27 = .ok (.iconst (-1), 1) := by decide +kernel
theorem d8_nodeNamedHere_28 : decode b8_nodeNamedHere 28 = .ok (.ireturn, 1) := by decide +kernel
theorem fl_8_79 : Cond.fieldLink cn_8 79 (ft_5 3).1 (ft_5 3).2.1 (ft_5 3).2.2.1 ∈ ce_cm := ce_cm_of (List.mem_of_getElem? (i := 208) (by decide +kernel)) (by decide +kernel)
theorem gf_8_79 (C : ce_Cx p s m args c meth cc nL ret cn_8 D ad cA B0 (ce_St aK aV B0)) (hH : ce_H D ad cA B0 X s h H locs) {k : Nat} (hk : ce_isNet k) (hdg : decode cc pc = .ok (.getfield 79, 3)) (kk : W p l e0 R s m args below meth c H locs cells slots Q (F0 m (pc + 3) ls (.int (h k 3) :: rest))) : W p l e0 R s m args below meth c H locs cells slots Q (F0 m pc ls (.ref (ad k) :: rest)) := by
  rcases hk with rfl | rfl
  · exact ce_get C hH (k := 7) (ci := 5) (j := 3) (N := 11) (sj := none) (by decide) rfl rfl fw_5 (by decide) fl_8_79 rfl hdg kk
  · exact ce_get C hH (k := 14) (ci := 5) (j := 3) (N := 11) (sj := none) (by decide) rfl rfl fw_5 (by decide) fl_8_79 rfl hdg kk
theorem pf_8_79 (C : ce_Cx p s m args c meth cc nL ret cn_8 D ad cA B0 (ce_St aK aV B0)) (hH : ce_H D ad cA B0 X s h H locs) {k : Nat} (hk : ce_isNet k) {x : Int32} (hdg : decode cc pc = .ok (.putfield 79, 3)) (kk : ∀ (H1 : Heap) (locs1 : List Loc), ce_H D ad cA B0 X s (hp_up h k 3 x) H1 locs1 → W p l e0 R s m args below meth c H1 locs1 cells slots Q (F0 m (pc + 3) ls rest)) : W p l e0 R s m args below meth c H locs cells slots Q (F0 m pc ls (.int x :: .ref (ad k) :: rest)) := by
  rcases hk with rfl | rfl
  · exact ce_put C hH (k := 7) (ci := 5) (j := 3) (N := 11) (fy := fy_5) (sj := none) x (by decide) rfl rfl fw_5 fo_5 fn_5 (by decide) fl_8_79 rfl rfl (v := .int x) (by simp [ce_slot, upd]) rfl rfl hdg kk
  · exact ce_put C hH (k := 14) (ci := 5) (j := 3) (N := 11) (fy := fy_5) (sj := none) x (by decide) rfl rfl fw_5 fo_5 fn_5 (by decide) fl_8_79 rfl rfl (v := .int x) (by simp [ce_slot, upd]) rfl rfl hdg kk
theorem lo_4 : 4 < 96 ∧ ∃ sl, ce_lay 4 = .inr (8, sl) := ⟨by decide, _, rfl⟩
theorem mc8_isNameHere : Cond.code y8_isNameHere b8_isNameHere 4 (some .boolean) ∈ ce_cm := ce_cm_of (List.mem_of_getElem? (i := 626) (by decide +kernel)) (by decide +kernel)
theorem ml_8_124 : Cond.methodLink cn_8 124 y8_isNameHere ∈ ce_cm := ce_cm_of (List.mem_of_getElem? (i := 623) (by decide +kernel)) (by decide +kernel)
theorem mi8_isNameHere : Cond.instanceMethod y8_isNameHere ∈ ce_cm := ce_cm_of (List.mem_of_getElem? (i := 625) (by decide +kernel)) (by decide +kernel)
theorem ms8_isNameHere : Cond.selects cn_8 y8_isNameHere y8_isNameHere ∈ ce_cm := ce_cm_of (List.mem_of_getElem? (i := 4) (by decide +kernel)) (by decide +kernel)
theorem mI_8 : Cond.initialized cn_8 ∈ ce_cm := ce_cm_of (List.mem_of_getElem? (i := 93) (by decide +kernel)) (by decide +kernel)
def f8_nodeNamedHere_b2 (F : Nat) (k2 : Nat) (x3 : Int32) (h : Hp) : Option ((Int32 × Hp) ⊕ ((Int32 × Hp) ⊕ (Hp))) :=
  if (h k2 3) ≤ x3 then
    some (.inr (.inr h))
  else
    Option.bind (f8_isNameHere F x3 h) (fun o13 =>
      if o13.1 = 0 then
        some (.inl (x3 + (1 : Int32), o13.2))
      else
        some (.inr (.inl (x3, o13.2))))
set_option maxRecDepth 20000 in
theorem l8_nodeNamedHere_2 (C : ce_Cx p s m args c meth b8_nodeNamedHere 4 (some .int) cn_8 D ad cA B0 (ce_St aK aV B0)) (F : Nat) (k2 : Nat) (hk2 : ce_isNet k2) (r : Int32 × Hp) (g : ((Int32 × Hp) ⊕ (Hp)) → Option (Int32 × Hp)) (hx : ∀  (h : Hp) (H : Heap) (locs : List Loc) (ls : Array Slot), ce_H D ad cA B0 [] s h H locs → lv_has ls 4 [] → g (.inr h) = some r → W p l e0 { frames := 2, cells := 0, slots := 0, locals := 44 } s m args below meth c H locs 0 0 (MQ below (ce_Q D ad cA B0 (ce_St aK aV B0) (some (.int r.1)) r.2) args s 0 0 (fun q => B0 ≤ q)) (F0 m 27 ls [])) (he : ∀ z, g (.inl z) = some z) : ∀ (n : Nat) (x3 : Int32) (h : Hp) (H : Heap) (locs : List Loc) (ls : Array Slot), ce_H D ad cA B0 [] s h H locs → lv_has ls 4 [(0, .ref (ad 4)), (1, .ref (ad 1)), (2, .ref (ad k2)), (3, .int x3)] → Option.bind (ce_it (fun (st : Int32 × Hp) => f8_nodeNamedHere_b2 F k2 st.1 st.2) n (x3, h)) g = some r → W p l e0 { frames := 2, cells := 0, slots := 0, locals := 44 } s m args below meth c H locs 0 0 (MQ below (ce_Q D ad cA B0 (ce_St aK aV B0) (some (.int r.1)) r.2) args s 0 0 (fun q => B0 ≤ q)) (F0 m 2 ls []) := by
  intro n
  induction n with
  | zero =>
    intro x3 h H locs ls hH hl e
    exact absurd e (fun z => by cases z)
  | succ n ih =>
    intro x3 h H locs ls hH hl e
    have hx9 := C.1
    have hb := C.2.1
    have e : Option.bind (f8_nodeNamedHere_b2 F k2 x3 h) _ = some r := ce_it_bd e
    unfold f8_nodeNamedHere_b2 at e
    refine lv_iload_n hx9 hb d8_nodeNamedHere_2 rfl (lv_at hl 3 rfl) ?_
    refine lv_aload_n hx9 hb d8_nodeNamedHere_3 rfl (lv_at hl 2 rfl) ?_
    refine gf_8_79 C hH hk2 d8_nodeNamedHere_4 ?_
    refine lv_icmp_ge (tgt := 27) hx9 hb d8_nodeNamedHere_7 (by decide) (fun hc7 => ?_) (fun hc7 => ?_)
    · have e := ce_if1 e hc7
      exact hx  h _ _ _ hH (lv_sub hl [] rfl) e
    · have e := ce_if0 e hc7
      refine lv_aload_n hx9 hb d8_nodeNamedHere_10 rfl (lv_at hl 0 rfl) ?_
      refine lv_aload_n hx9 hb d8_nodeNamedHere_11 rfl (lv_at hl 1 rfl) ?_
      refine lv_iload_n hx9 hb d8_nodeNamedHere_12 rfl (lv_at hl 3 rfl) ?_
      obtain ⟨o13, eo13, e⟩ := ce_bd e
      refine ce_callV (As := [.ref (ad 1), .int x3]) (rest := []) C (ce_sok aK aV B0) hH (c8_isNameHere l D ad cA aK aV B0 C.2.2.2.2.2.2.1 F x3  h o13 eo13) lo_4.1 lo_4.2.choose_spec rfl rfl mc8_isNameHere ml_8_124 mi8_isNameHere ms8_isNameHere mI_8 (n := 2) (by decide) rfl ⟨Nat.le_of_ble_eq_true rfl, Nat.le_of_ble_eq_true rfl⟩ ⟨Nat.le_of_ble_eq_true rfl, Nat.le_of_ble_eq_true rfl⟩ hl.1 rfl (Nat.le_of_ble_eq_true rfl) d8_nodeNamedHere_13 (fun H locs hH => ?_)
      refine W.eq (g2 := F0 m 16 ls [.int o13.1]) rfl ?_
      refine lv_if_eq (tgt := 21) hx9 hb d8_nodeNamedHere_16 (by decide) (fun hc16 => ?_) (fun hc16 => ?_)
      · have e := ce_if1 e hc16
        refine lv_iinc (v := x3 + (1 : Int32)) (lv' := [(3, .int (x3 + (1 : Int32))), (0, .ref (ad 4)), (1, .ref (ad 1)), (2, .ref (ad k2))]) hx9 hb d8_nodeNamedHere_21 hl (k := 3) rfl rfl (by decide) rfl (fun ls hl => ?_)
        refine lv_goto (tgt := 2) hx9 hb d8_nodeNamedHere_24 (by decide) ?_
        exact ih (x3 + (1 : Int32)) o13.2 _ _ _ hH (lv_sub hl [1, 2, 3, 0] rfl) e
      · have e := ce_if0 e hc16
        refine lv_iload_n hx9 hb d8_nodeNamedHere_19 rfl (lv_at hl 3 rfl) ?_
        have e := (he _).symm.trans e
        exact ce_iretE C (ce_sok aK aV B0) hH e d8_nodeNamedHere_20
def f8_nodeNamedHere (F : Nat) (k2 : Nat) (h : Hp) : Option (Int32 × Hp) :=
  Option.bind (ce_it (fun (st : Int32 × Hp) => f8_nodeNamedHere_b2 F k2 st.1 st.2) F ((0 : Int32), h)) (fun o2w => match o2w with
    | .inl z => some z
    | .inr o2 =>
      some ((-1 : Int32), o2))
set_option maxRecDepth 20000 in
theorem c8_nodeNamedHere (l : Launch) (D : va_G) (ad : Nat → Nat) (cA : Nat → ClassId) (aK aV : Nat → Nat) (B0 : Nat) (hA : ce_Ad ad B0) (F : Nat) (k2 : Nat) (hk2 : ce_isNet k2) (h : Hp) (r : Int32 × Hp) (e : f8_nodeNamedHere F k2 h = some r) : ce_Ct l D ad cA B0 (ce_St aK aV B0) y8_nodeNamedHere b8_nodeNamedHere 4 (some .int) 2 44 0 0 [.ref (ad 4), .ref (ad 1), .ref (ad k2)] h (some (.int r.1)) r.2 := by
  refine ce_enter hA (by decide) rfl (Nat.le_of_ble_eq_true rfl) (fun p e0 s m below meth c ls C hH hl => ?_)
  have hl : lv_has ls 4 [(0, .ref (ad 4)), (1, .ref (ad 1)), (2, .ref (ad k2))] := hl
  have hx := C.1
  have hb := C.2.1
  have e : Option.bind _ some = some r := (congrArg (fun z => Option.bind z some) e).trans rfl
  unfold f8_nodeNamedHere at e
  refine lv_iconst (v := (0 : Int32)) hx hb d8_nodeNamedHere_0 (by decide) ?_
  refine lv_istore_n (lv' := [(3, .int (0 : Int32)), (0, .ref (ad 4)), (1, .ref (ad 1)), (2, .ref (ad k2))]) hx hb d8_nodeNamedHere_1 rfl hl (by decide) rfl (fun ls hl => ?_)
  refine l8_nodeNamedHere_2 C F k2 hk2 r _ (fun  h_2 H locs ls hH hl e => ?_) (fun z => rfl) F (0 : Int32) h _ _ _ hH (lv_sub hl [1, 2, 3, 0] rfl) (ce_as e)
  try dsimp only at e
  refine lv_iconst (v := (-1 : Int32)) hx hb d8_nodeNamedHere_27 (by decide) ?_
  exact ce_iretE C (ce_sok aK aV B0) hH e d8_nodeNamedHere_28
abbrev b8_takeNewName : ByteArray := prog_10_method_5_code
def y8_takeNewName : MethodName := ⟨cn_8, "takeNewName", "(LCableElection$Reading;LCableElection$Net;)V"⟩
theorem d8_takeNewName_0 : decode b8_takeNewName 0 = .ok (.aload_n 1, 1) := by decide +kernel
theorem d8_takeNewName_1 : decode b8_takeNewName 1 = .ok (.getfield 100, 3) := by decide +kernel
theorem d8_takeNewName_4 : decode b8_takeNewName 4 = .ok (.iconst 1, 1) := by decide +kernel
theorem d8_takeNewName_5 : decode b8_takeNewName 5 = .ok (.if_icmp .eq 9, 3) := by decide +kernel
theorem d8_takeNewName_8 : decode b8_takeNewName 8 = .ok (.aload_n 1, 1) := by decide +kernel
theorem d8_takeNewName_9 : decode b8_takeNewName 9 = .ok (.iconst 1, 1) := by decide +kernel
theorem d8_takeNewName_10 : decode b8_takeNewName 10 = .ok (.invokevirtual 50, 3) := by decide +kernel
theorem d8_takeNewName_13 : decode b8_takeNewName 13 = .ok (.return_, 1) := by decide +kernel
theorem d8_takeNewName_14 : decode b8_takeNewName 14 = .ok (.aload_n 1, 1) := by decide +kernel
theorem d8_takeNewName_15 : decode b8_takeNewName 15 = .ok (.getfield 103, 3) := by decide +kernel
theorem d8_takeNewName_18 : decode b8_takeNewName 18 = .ok (.aload_n 1, 1) := by decide +kernel
theorem d8_takeNewName_19 : decode b8_takeNewName 19 = .ok (.getfield 106, 3) := by decide +kernel
theorem d8_takeNewName_22 : decode b8_takeNewName 22 = .ok (.isub, 1) := by decide +kernel
theorem d8_takeNewName_23 : decode b8_takeNewName 23 = .ok (.istore_n 3, 1) := by decide +kernel
theorem d8_takeNewName_24 : decode b8_takeNewName 24 = .ok (.iload_n 3, 1) := by decide +kernel
theorem d8_takeNewName_25 : decode b8_takeNewName 25 = .ok (.bipush 6, 2) := by decide +kernel
theorem d8_takeNewName_27 : decode b8_takeNewName 27 = .ok (.if_icmp .gt 20, 3) := by decide +kernel
theorem d8_takeNewName_30 : decode b8_takeNewName 30 = .ok (.aload_n 1, 1) := by decide +kernel
theorem d8_takeNewName_31 : decode b8_takeNewName 31 = .ok (.invokestatic 109, 3) := by decide +kernel
theorem d8_takeNewName_34 : decode b8_takeNewName 34 = .ok (.ifCond .ne 13, 3) := by decide +kernel
theorem d8_takeNewName_37 : decode b8_takeNewName 37 = .ok (.aload_n 0, 1) := by decide +kernel
theorem d8_takeNewName_38 : decode b8_takeNewName 38 = .ok (.aload_n 1, 1) := by decide +kernel
theorem d8_takeNewName_39 : decode b8_takeNewName 39 = .ok (.aload_n 2, 1) := by decide +kernel
theorem d8_takeNewName_40 : decode b8_takeNewName 40 = .ok (.invokevirtual 113, 3) := by decide +kernel
theorem d8_takeNewName_43 : decode b8_takeNewName 43 = .ok (.iconst (-1), 1) := by decide +kernel
theorem d8_takeNewName_44 : decode b8_takeNewName 44 = .ok (.if_icmp .eq 9, 3) := by decide +kernel
theorem d8_takeNewName_47 : decode b8_takeNewName 47 = .ok (.aload_n 1, 1) := by decide +kernel
theorem d8_takeNewName_48 : decode b8_takeNewName 48 = .ok (.iconst 2, 1) := by decide +kernel
theorem d8_takeNewName_49 : decode b8_takeNewName 49 = .ok (.invokevirtual 50, 3) := by decide +kernel
theorem d8_takeNewName_52 : decode b8_takeNewName 52 = .ok (.return_, 1) := by decide +kernel
theorem d8_takeNewName_53 : decode b8_takeNewName 53 = .ok (.aload_n 0, 1) := by decide +kernel
theorem d8_takeNewName_54 : decode b8_takeNewName 54 = .ok (.getfield 9, 3) := by decide +kernel
theorem d8_takeNewName_57 : decode b8_takeNewName 57 = .ok (.aload_n 2, 1) := by decide +kernel
theorem d8_takeNewName_58 : decode b8_takeNewName 58 = .ok (.getfield 79, 3) := by decide +kernel
theorem d8_takeNewName_61 : decode b8_takeNewName 61 = .ok (.aload_n 1, 1) := by decide +kernel
theorem d8_takeNewName_62 : decode b8_takeNewName 62 = .ok (.getfield 106, 3) := by decide +kernel
theorem d8_takeNewName_65 : decode b8_takeNewName 65 = .ok (.iastore, 1) := by decide +kernel
theorem d8_takeNewName_66 : decode b8_takeNewName 66 = .ok (.aload_n 0, 1) := by decide +kernel
theorem d8_takeNewName_67 : decode b8_takeNewName 67 = .ok (.getfield 15, 3) := by decide +kernel
theorem d8_takeNewName_70 : decode b8_takeNewName 70 = .ok (.aload_n 2, 1) := by decide +kernel
theorem d8_takeNewName_71 : decode b8_takeNewName 71 = .ok (.getfield 79, 3) := by decide +kernel
theorem d8_takeNewName_74 : decode b8_takeNewName 74 = .ok (.iload_n 3, 1) := by decide +kernel
theorem d8_takeNewName_75 : decode b8_takeNewName 75 = .ok (.iastore, 1) := by decide +kernel
theorem d8_takeNewName_76 : decode b8_takeNewName 76 = .ok (.aload_n 1, 1) := by decide +kernel
theorem d8_takeNewName_77 : decode b8_takeNewName 77 = .ok (.invokevirtual 117, 3) := by decide +kernel
theorem d8_takeNewName_80 : decode b8_takeNewName 80 = .ok (.return_, 1) := by decide +kernel
theorem fl_8_100 : Cond.fieldLink cn_8 100 (ft_6 1).1 (ft_6 1).2.1 (ft_6 1).2.2.1 ∈ ce_cm := ce_cm_of (List.mem_of_getElem? (i := 145) (by decide +kernel)) (by decide +kernel)
theorem gf_8_100 (C : ce_Cx p s m args c meth cc nL ret cn_8 D ad cA B0 (ce_St aK aV B0)) (hH : ce_H D ad cA B0 X s h H locs) (hdg : decode cc pc = .ok (.getfield 100, 3)) (kk : W p l e0 R s m args below meth c H locs cells slots Q (F0 m (pc + 3) ls (.int (h 1 1) :: rest))) : W p l e0 R s m args below meth c H locs cells slots Q (F0 m pc ls (.ref (ad 1) :: rest)) := by
  exact ce_get C hH (k := 1) (ci := 6) (j := 1) (N := 6) (sj := none) (by decide) rfl rfl fw_6 (by decide) fl_8_100 rfl hdg kk
theorem pf_8_100 (C : ce_Cx p s m args c meth cc nL ret cn_8 D ad cA B0 (ce_St aK aV B0)) (hH : ce_H D ad cA B0 X s h H locs) {x : Int32} (hdg : decode cc pc = .ok (.putfield 100, 3)) (kk : ∀ (H1 : Heap) (locs1 : List Loc), ce_H D ad cA B0 X s (hp_up h 1 1 x) H1 locs1 → W p l e0 R s m args below meth c H1 locs1 cells slots Q (F0 m (pc + 3) ls rest)) : W p l e0 R s m args below meth c H locs cells slots Q (F0 m pc ls (.int x :: .ref (ad 1) :: rest)) := by
  exact ce_put C hH (k := 1) (ci := 6) (j := 1) (N := 6) (fy := fy_6) (sj := none) x (by decide) rfl rfl fw_6 fo_6 fn_6 (by decide) fl_8_100 rfl rfl (v := .int x) (by simp [ce_slot, upd]) rfl rfl hdg kk
theorem ml_8_50 : Cond.methodLink cn_8 50 y6_refuse ∈ ce_cm := ce_cm_of (List.mem_of_getElem? (i := 608) (by decide +kernel)) (by decide +kernel)
theorem ml_8_117 : Cond.methodLink cn_8 117 y6_advance ∈ ce_cm := ce_cm_of (List.mem_of_getElem? (i := 628) (by decide +kernel)) (by decide +kernel)
theorem mc8_nodeNamedHere : Cond.code y8_nodeNamedHere b8_nodeNamedHere 4 (some .int) ∈ ce_cm := ce_cm_of (List.mem_of_getElem? (i := 622) (by decide +kernel)) (by decide +kernel)
theorem ml_8_113 : Cond.methodLink cn_8 113 y8_nodeNamedHere ∈ ce_cm := ce_cm_of (List.mem_of_getElem? (i := 619) (by decide +kernel)) (by decide +kernel)
theorem mi8_nodeNamedHere : Cond.instanceMethod y8_nodeNamedHere ∈ ce_cm := ce_cm_of (List.mem_of_getElem? (i := 621) (by decide +kernel)) (by decide +kernel)
theorem ms8_nodeNamedHere : Cond.selects cn_8 y8_nodeNamedHere y8_nodeNamedHere ∈ ce_cm := ce_cm_of (List.mem_of_getElem? (i := 3) (by decide +kernel)) (by decide +kernel)
theorem mc8_isReserved : Cond.code y8_isReserved b8_isReserved 1 (some .boolean) ∈ ce_cm := ce_cm_of (List.mem_of_getElem? (i := 615) (by decide +kernel)) (by decide +kernel)
theorem ml_8_109 : Cond.methodLink cn_8 109 y8_isReserved ∈ ce_cm := ce_cm_of (List.mem_of_getElem? (i := 613) (by decide +kernel)) (by decide +kernel)
theorem mt8_isReserved : Cond.static y8_isReserved ∈ ce_cm := ce_cm_of (List.mem_of_getElem? (i := 614) (by decide +kernel)) (by decide +kernel)
def f8_takeNewName (F : Nat) (k2 : Nat) (h : Hp) : Option (Hp) :=
  if (h 1 1) = (1 : Int32) then
    if (6 : Int32) < ((h 1 3) - (h 1 2)) then
      Option.bind (f6_refuse F (2 : Int32) h) (fun o49 =>
        some o49)
    else
      Option.bind (f8_isReserved F  h) (fun o31 =>
        if o31.1 = 0 then
          Option.bind (f8_nodeNamedHere F k2 o31.2) (fun o40 =>
            if o40.1 = (-1 : Int32) then
              if ce_in (o40.2 k2 3) 10 = true then
                ce_nm (hp_up o40.2 5 ((o40.2 k2 3)).toNatClampNeg (o40.2 1 2)) (fun h_65 =>
                  if ce_in (h_65 k2 3) 10 = true then
                    ce_nm (hp_up h_65 6 ((h_65 k2 3)).toNatClampNeg ((h 1 3) - (h 1 2))) (fun h_75 =>
                      Option.bind (f6_advance F  h_75) (fun o77 =>
                        some o77))
                  else none)
              else none
            else
              Option.bind (f6_refuse F (2 : Int32) o40.2) (fun o49 =>
                some o49))
        else
          Option.bind (f6_refuse F (2 : Int32) o31.2) (fun o49 =>
            some o49))
  else
    Option.bind (f6_refuse F (1 : Int32) h) (fun o10 =>
      some o10)
set_option maxRecDepth 20000 in
theorem c8_takeNewName (l : Launch) (D : va_G) (ad : Nat → Nat) (cA : Nat → ClassId) (aK aV : Nat → Nat) (B0 : Nat) (hA : ce_Ad ad B0) (F : Nat) (k2 : Nat) (hk2 : ce_isNet k2) (h : Hp) (r : Hp) (e : f8_takeNewName F k2 h = some r) : ce_Ct l D ad cA B0 (ce_St aK aV B0) y8_takeNewName b8_takeNewName 4 none 11 263 0 0 [.ref (ad 4), .ref (ad 1), .ref (ad k2)] h none r := by
  refine ce_enter hA (by decide) rfl (Nat.le_of_ble_eq_true rfl) (fun p e0 s m below meth c ls C hH hl => ?_)
  have hl : lv_has ls 4 [(0, .ref (ad 4)), (1, .ref (ad 1)), (2, .ref (ad k2))] := hl
  have hx := C.1
  have hb := C.2.1
  have e : Option.bind _ some = some r := (congrArg (fun z => Option.bind z some) e).trans rfl
  unfold f8_takeNewName at e
  refine lv_aload_n hx hb d8_takeNewName_0 rfl (lv_at hl 1 rfl) ?_
  refine gf_8_100 C hH d8_takeNewName_1 ?_
  refine lv_iconst (v := (1 : Int32)) hx hb d8_takeNewName_4 (by decide) ?_
  refine lv_icmp_eq (tgt := 14) hx hb d8_takeNewName_5 (by decide) (fun hc5 => ?_) (fun hc5 => ?_)
  · have e := ce_if1 e hc5
    refine lv_aload_n hx hb d8_takeNewName_14 rfl (lv_at hl 1 rfl) ?_
    refine gf_8_103 C hH d8_takeNewName_15 ?_
    refine lv_aload_n hx hb d8_takeNewName_18 rfl (lv_at hl 1 rfl) ?_
    refine gf_8_106 C hH d8_takeNewName_19 ?_
    refine lv_isub hx hb d8_takeNewName_22 ?_
    refine lv_istore_n (lv' := [(3, .int ((h 1 3) - (h 1 2))), (0, .ref (ad 4)), (1, .ref (ad 1)), (2, .ref (ad k2))]) hx hb d8_takeNewName_23 rfl hl (by decide) rfl (fun ls hl => ?_)
    refine lv_iload_n hx hb d8_takeNewName_24 rfl (lv_at hl 0 rfl) ?_
    refine lv_bipush (v := (6 : Int32)) hx hb d8_takeNewName_25 (by decide) ?_
    refine lv_icmp_gt (tgt := 47) hx hb d8_takeNewName_27 (by decide) (fun hc27 => ?_) (fun hc27 => ?_)
    · have e := ce_if1 e hc27
      refine lv_aload_n hx hb d8_takeNewName_47 rfl (lv_at hl 2 rfl) ?_
      refine lv_iconst (v := (2 : Int32)) hx hb d8_takeNewName_48 (by decide) ?_
      obtain ⟨o49, eo49, e⟩ := ce_bd e
      refine ce_callV (As := [.int (2 : Int32)]) (rest := []) C (ce_sok aK aV B0) hH (c6_refuse l D ad cA aK aV B0 C.2.2.2.2.2.2.1 F (2 : Int32)  h o49 eo49) lo_1.1 lo_1.2.choose_spec rfl rfl mc6_refuse ml_8_50 mi6_refuse ms6_refuse mI_6 (n := 1) (by decide) rfl ⟨Nat.le_of_ble_eq_true rfl, Nat.le_of_ble_eq_true rfl⟩ ⟨Nat.le_of_ble_eq_true rfl, Nat.le_of_ble_eq_true rfl⟩ hl.1 rfl (Nat.le_of_ble_eq_true rfl) d8_takeNewName_49 (fun H locs hH => ?_)
      refine W.eq (g2 := F0 m 52 ls []) rfl ?_
      exact ce_vret C (ce_sok aK aV B0) hH (Option.some.inj e) d8_takeNewName_52
    · have e := ce_if0 e hc27
      refine lv_aload_n hx hb d8_takeNewName_30 rfl (lv_at hl 2 rfl) ?_
      obtain ⟨o31, eo31, e⟩ := ce_bd e
      refine ce_callS (As := [.ref (ad 1)]) (rest := []) C (ce_sok aK aV B0) hH (c8_isReserved l D ad cA aK aV B0 C.2.2.2.2.2.2.1 F   h o31 eo31) mc8_isReserved ml_8_109 mt8_isReserved mI_8 (n := 1) (by decide) rfl ⟨Nat.le_of_ble_eq_true rfl, Nat.le_of_ble_eq_true rfl⟩ ⟨Nat.le_of_ble_eq_true rfl, Nat.le_of_ble_eq_true rfl⟩ hl.1 rfl (Nat.le_of_ble_eq_true rfl) d8_takeNewName_31 (fun H locs hH => ?_)
      refine W.eq (g2 := F0 m 34 ls [.int o31.1]) rfl ?_
      refine lv_if_ne (tgt := 47) hx hb d8_takeNewName_34 (by decide) (fun hc34 => ?_) (fun hc34 => ?_)
      · have e := ce_if0 e hc34
        refine lv_aload_n hx hb d8_takeNewName_47 rfl (lv_at hl 2 rfl) ?_
        refine lv_iconst (v := (2 : Int32)) hx hb d8_takeNewName_48 (by decide) ?_
        obtain ⟨o49, eo49, e⟩ := ce_bd e
        refine ce_callV (As := [.int (2 : Int32)]) (rest := []) C (ce_sok aK aV B0) hH (c6_refuse l D ad cA aK aV B0 C.2.2.2.2.2.2.1 F (2 : Int32)  o31.2 o49 eo49) lo_1.1 lo_1.2.choose_spec rfl rfl mc6_refuse ml_8_50 mi6_refuse ms6_refuse mI_6 (n := 1) (by decide) rfl ⟨Nat.le_of_ble_eq_true rfl, Nat.le_of_ble_eq_true rfl⟩ ⟨Nat.le_of_ble_eq_true rfl, Nat.le_of_ble_eq_true rfl⟩ hl.1 rfl (Nat.le_of_ble_eq_true rfl) d8_takeNewName_49 (fun H locs hH => ?_)
        refine W.eq (g2 := F0 m 52 ls []) rfl ?_
        exact ce_vret C (ce_sok aK aV B0) hH (Option.some.inj e) d8_takeNewName_52
      · have e := ce_if1 e hc34
        refine lv_aload_n hx hb d8_takeNewName_37 rfl (lv_at hl 1 rfl) ?_
        refine lv_aload_n hx hb d8_takeNewName_38 rfl (lv_at hl 2 rfl) ?_
        refine lv_aload_n hx hb d8_takeNewName_39 rfl (lv_at hl 3 rfl) ?_
        obtain ⟨o40, eo40, e⟩ := ce_bd e
        refine ce_callV (As := [.ref (ad 1), .ref (ad k2)]) (rest := []) C (ce_sok aK aV B0) hH (c8_nodeNamedHere l D ad cA aK aV B0 C.2.2.2.2.2.2.1 F k2 hk2 o31.2 o40 eo40) lo_4.1 lo_4.2.choose_spec rfl rfl mc8_nodeNamedHere ml_8_113 mi8_nodeNamedHere ms8_nodeNamedHere mI_8 (n := 2) (by decide) rfl ⟨Nat.le_of_ble_eq_true rfl, Nat.le_of_ble_eq_true rfl⟩ ⟨Nat.le_of_ble_eq_true rfl, Nat.le_of_ble_eq_true rfl⟩ hl.1 rfl (Nat.le_of_ble_eq_true rfl) d8_takeNewName_40 (fun H locs hH => ?_)
        refine W.eq (g2 := F0 m 43 ls [.int o40.1]) rfl ?_
        refine lv_iconst (v := (-1 : Int32)) hx hb d8_takeNewName_43 (by decide) ?_
        refine lv_icmp_eq (tgt := 53) hx hb d8_takeNewName_44 (by decide) (fun hc44 => ?_) (fun hc44 => ?_)
        · have e := ce_if1 e hc44
          refine lv_aload_n hx hb d8_takeNewName_53 rfl (lv_at hl 1 rfl) ?_
          refine gf_8_9 C hH d8_takeNewName_54 ?_
          refine lv_aload_n hx hb d8_takeNewName_57 rfl (lv_at hl 3 rfl) ?_
          refine gf_8_79 C hH hk2 d8_takeNewName_58 ?_
          refine lv_aload_n hx hb d8_takeNewName_61 rfl (lv_at hl 2 rfl) ?_
          refine gf_8_106 C hH d8_takeNewName_62 ?_
          obtain ⟨hi65, e⟩ := ce_gd e
          refine ce_iast C hH lc_5.1 lc_5.2 (ce_in_vp hi65) d8_takeNewName_65 (fun H locs hH => ?_)
          obtain ⟨h_65, eh_65, e⟩ := ce_nmE e
          rw [← eh_65] at hH
          refine lv_aload_n hx hb d8_takeNewName_66 rfl (lv_at hl 1 rfl) ?_
          refine gf_8_15 C hH d8_takeNewName_67 ?_
          refine lv_aload_n hx hb d8_takeNewName_70 rfl (lv_at hl 3 rfl) ?_
          refine gf_8_79 C hH hk2 d8_takeNewName_71 ?_
          refine lv_iload_n hx hb d8_takeNewName_74 rfl (lv_at hl 0 rfl) ?_
          obtain ⟨hi75, e⟩ := ce_gd e
          refine ce_iast C hH lc_6.1 lc_6.2 (ce_in_vp hi75) d8_takeNewName_75 (fun H locs hH => ?_)
          obtain ⟨h_75, eh_75, e⟩ := ce_nmE e
          rw [← eh_75] at hH
          refine lv_aload_n hx hb d8_takeNewName_76 rfl (lv_at hl 2 rfl) ?_
          obtain ⟨o77, eo77, e⟩ := ce_bd e
          refine ce_callV (As := []) (rest := []) C (ce_sok aK aV B0) hH (c6_advance l D ad cA aK aV B0 C.2.2.2.2.2.2.1 F   h_75 o77 eo77) lo_1.1 lo_1.2.choose_spec rfl rfl mc6_advance ml_8_117 mi6_advance ms6_advance mI_6 (n := 0) (by decide) rfl ⟨Nat.le_of_ble_eq_true rfl, Nat.le_of_ble_eq_true rfl⟩ ⟨Nat.le_of_ble_eq_true rfl, Nat.le_of_ble_eq_true rfl⟩ hl.1 rfl (Nat.le_of_ble_eq_true rfl) d8_takeNewName_77 (fun H locs hH => ?_)
          refine W.eq (g2 := F0 m 80 ls []) rfl ?_
          exact ce_vret C (ce_sok aK aV B0) hH (Option.some.inj e) d8_takeNewName_80
        · have e := ce_if0 e hc44
          refine lv_aload_n hx hb d8_takeNewName_47 rfl (lv_at hl 2 rfl) ?_
          refine lv_iconst (v := (2 : Int32)) hx hb d8_takeNewName_48 (by decide) ?_
          obtain ⟨o49, eo49, e⟩ := ce_bd e
          refine ce_callV (As := [.int (2 : Int32)]) (rest := []) C (ce_sok aK aV B0) hH (c6_refuse l D ad cA aK aV B0 C.2.2.2.2.2.2.1 F (2 : Int32)  o40.2 o49 eo49) lo_1.1 lo_1.2.choose_spec rfl rfl mc6_refuse ml_8_50 mi6_refuse ms6_refuse mI_6 (n := 1) (by decide) rfl ⟨Nat.le_of_ble_eq_true rfl, Nat.le_of_ble_eq_true rfl⟩ ⟨Nat.le_of_ble_eq_true rfl, Nat.le_of_ble_eq_true rfl⟩ hl.1 rfl (Nat.le_of_ble_eq_true rfl) d8_takeNewName_49 (fun H locs hH => ?_)
          refine W.eq (g2 := F0 m 52 ls []) rfl ?_
          exact ce_vret C (ce_sok aK aV B0) hH (Option.some.inj e) d8_takeNewName_52
  · have e := ce_if0 e hc5
    refine lv_aload_n hx hb d8_takeNewName_8 rfl (lv_at hl 1 rfl) ?_
    refine lv_iconst (v := (1 : Int32)) hx hb d8_takeNewName_9 (by decide) ?_
    obtain ⟨o10, eo10, e⟩ := ce_bd e
    refine ce_callV (As := [.int (1 : Int32)]) (rest := []) C (ce_sok aK aV B0) hH (c6_refuse l D ad cA aK aV B0 C.2.2.2.2.2.2.1 F (1 : Int32)  h o10 eo10) lo_1.1 lo_1.2.choose_spec rfl rfl mc6_refuse ml_8_50 mi6_refuse ms6_refuse mI_6 (n := 1) (by decide) rfl ⟨Nat.le_of_ble_eq_true rfl, Nat.le_of_ble_eq_true rfl⟩ ⟨Nat.le_of_ble_eq_true rfl, Nat.le_of_ble_eq_true rfl⟩ hl.1 rfl (Nat.le_of_ble_eq_true rfl) d8_takeNewName_10 (fun H locs hH => ?_)
    refine W.eq (g2 := F0 m 13 ls []) rfl ?_
    exact ce_vret C (ce_sok aK aV B0) hH (Option.some.inj e) d8_takeNewName_13
abbrev b8_readForce : ByteArray := prog_10_method_9_code
def y8_readForce : MethodName := ⟨cn_8, "readForce", "(LCableElection$Reading;LCableElection$Net;I)V"⟩
theorem d8_readForce_0 : decode b8_readForce 0 = .ok (.aload_n 1, 1) := by decide +kernel
theorem d8_readForce_1 : decode b8_readForce 1 = .ok (.ldc 120, 2) := by decide +kernel
theorem d8_readForce_3 : decode b8_readForce 3 = .ok (.invokevirtual 38, 3) := by decide +kernel
theorem d8_readForce_6 : decode b8_readForce 6 = .ok (.ifCond .eq 14, 3) := by decide +kernel
theorem d8_readForce_9 : decode b8_readForce 9 = .ok (.aload_n 2, 1) := by decide +kernel
theorem d8_readForce_10 : decode b8_readForce 10 = .ok (.getfield 138, 3) := by decide +kernel
theorem d8_readForce_13 : decode b8_readForce 13 = .ok (.iload_n 3, 1) := by decide +kernel
theorem d8_readForce_14 : decode b8_readForce 14 = .ok (.iconst 1, 1) := by decide +kernel
theorem d8_readForce_15 : decode b8_readForce 15 = .ok (.bastore, 1) := by decide +kernel
theorem d8_readForce_16 : decode b8_readForce 16 = .ok (.aload_n 1, 1) := by decide +kernel
theorem d8_readForce_17 : decode b8_readForce 17 = .ok (.invokevirtual 117, 3) := by decide +kernel
theorem d8_readForce_20 : decode b8_readForce 20 = .ok (.return_, 1) := by decide +kernel
theorem fl_8_138 : Cond.fieldLink cn_8 138 (ft_5 6).1 (ft_5 6).2.1 (ft_5 6).2.2.1 ∈ ce_cm := ce_cm_of (List.mem_of_getElem? (i := 223) (by decide +kernel)) (by decide +kernel)
theorem gf_8_138 (C : ce_Cx p s m args c meth cc nL ret cn_8 D ad cA B0 (ce_St aK aV B0)) (hH : ce_H D ad cA B0 X s h H locs) {k : Nat} (hk : ce_isNet k) (hdg : decode cc pc = .ok (.getfield 138, 3)) (kk : W p l e0 R s m args below meth c H locs cells slots Q (F0 m (pc + 3) ls (.ref (ad (k + 2)) :: rest))) : W p l e0 R s m args below meth c H locs cells slots Q (F0 m pc ls (.ref (ad k) :: rest)) := by
  rcases hk with rfl | rfl
  · exact ce_get C hH (k := 7) (ci := 5) (j := 6) (N := 11) (sj := some (some 9)) (by decide) rfl rfl fw_5 (by decide) fl_8_138 rfl hdg kk
  · exact ce_get C hH (k := 14) (ci := 5) (j := 6) (N := 11) (sj := some (some 16)) (by decide) rfl rfl fw_5 (by decide) fl_8_138 rfl hdg kk
def f8_readForce (F : Nat) (k2 : Nat) (x3 : Int32) (h : Hp) : Option (Hp) :=
  Option.bind (f6_isWord F 5 h) (fun o3 =>
    if o3.1 = 0 then
      some o3.2
    else
      if ce_in x3 10 = true then
        ce_nm (hp_up o3.2 (k2 + 2) (x3).toNatClampNeg (vp_nar .boolean (1 : Int32))) (fun h_15 =>
          Option.bind (f6_advance F  h_15) (fun o17 =>
            some o17))
      else none)
set_option maxRecDepth 20000 in
theorem c8_readForce (l : Launch) (D : va_G) (ad : Nat → Nat) (cA : Nat → ClassId) (aK aV : Nat → Nat) (B0 : Nat) (hA : ce_Ad ad B0) (F : Nat) (k2 : Nat) (x3 : Int32) (hk2 : ce_isNet k2) (h : Hp) (r : Hp) (e : f8_readForce F k2 x3 h = some r) : ce_Ct l D ad cA B0 (ce_St aK aV B0) y8_readForce b8_readForce 4 none 10 243 0 0 [.ref (ad 4), .ref (ad 1), .ref (ad k2), .int x3] h none r := by
  refine ce_enter hA (by decide) rfl (Nat.le_of_ble_eq_true rfl) (fun p e0 s m below meth c ls C hH hl => ?_)
  have hl : lv_has ls 4 [(0, .ref (ad 4)), (1, .ref (ad 1)), (2, .ref (ad k2)), (3, .int x3)] := hl
  have hx := C.1
  have hb := C.2.1
  have e : Option.bind _ some = some r := (congrArg (fun z => Option.bind z some) e).trans rfl
  unfold f8_readForce at e
  refine lv_aload_n hx hb d8_readForce_0 rfl (lv_at hl 1 rfl) ?_
  refine va_ldcS hx hb C.2.2.2.1 (ce_srR C.2.2.2.2.2.2.2.2.2.2 5 rfl) d8_readForce_1 ?_
  obtain ⟨o3, eo3, e⟩ := ce_bd e
  refine ce_callV (As := [.ref (aK 5)]) (rest := []) C (ce_sok aK aV B0) hH (c6_isWord l D ad cA aK aV B0 C.2.2.2.2.2.2.1 F 5 (by decide) h o3 eo3) lo_1.1 lo_1.2.choose_spec rfl rfl mc6_isWord ml_8_38 mi6_isWord ms6_isWord mI_6 (n := 1) (by decide) rfl ⟨Nat.le_of_ble_eq_true rfl, Nat.le_of_ble_eq_true rfl⟩ ⟨Nat.le_of_ble_eq_true rfl, Nat.le_of_ble_eq_true rfl⟩ hl.1 rfl (Nat.le_of_ble_eq_true rfl) d8_readForce_3 (fun H locs hH => ?_)
  refine W.eq (g2 := F0 m 6 ls [.int o3.1]) rfl ?_
  refine lv_if_eq (tgt := 20) hx hb d8_readForce_6 (by decide) (fun hc6 => ?_) (fun hc6 => ?_)
  · have e := ce_if1 e hc6
    exact ce_vret C (ce_sok aK aV B0) hH (Option.some.inj e) d8_readForce_20
  · have e := ce_if0 e hc6
    refine lv_aload_n hx hb d8_readForce_9 rfl (lv_at hl 2 rfl) ?_
    refine gf_8_138 C hH hk2 d8_readForce_10 ?_
    refine lv_iload_n hx hb d8_readForce_13 rfl (lv_at hl 3 rfl) ?_
    refine lv_iconst (v := (1 : Int32)) hx hb d8_readForce_14 (by decide) ?_
    obtain ⟨hi15, e⟩ := ce_gd e
    refine ce_zast C hH (la_Net_2 hk2).1 (la_Net_2 hk2).2 (ce_in_vp hi15) d8_readForce_15 (fun H locs hH => ?_)
    obtain ⟨h_15, eh_15, e⟩ := ce_nmE e
    rw [← eh_15] at hH
    refine lv_aload_n hx hb d8_readForce_16 rfl (lv_at hl 1 rfl) ?_
    obtain ⟨o17, eo17, e⟩ := ce_bd e
    refine ce_callV (As := []) (rest := []) C (ce_sok aK aV B0) hH (c6_advance l D ad cA aK aV B0 C.2.2.2.2.2.2.1 F   h_15 o17 eo17) lo_1.1 lo_1.2.choose_spec rfl rfl mc6_advance ml_8_117 mi6_advance ms6_advance mI_6 (n := 0) (by decide) rfl ⟨Nat.le_of_ble_eq_true rfl, Nat.le_of_ble_eq_true rfl⟩ ⟨Nat.le_of_ble_eq_true rfl, Nat.le_of_ble_eq_true rfl⟩ hl.1 rfl (Nat.le_of_ble_eq_true rfl) d8_readForce_17 (fun H locs hH => ?_)
    refine W.eq (g2 := F0 m 20 ls []) rfl ?_
    exact ce_vret C (ce_sok aK aV B0) hH (Option.some.inj e) d8_readForce_20
abbrev b8_areCoinsHere : ByteArray := prog_10_method_11_code
def y8_areCoinsHere : MethodName := ⟨cn_8, "areCoinsHere", "(LCableElection$Reading;)Z"⟩
theorem d8_areCoinsHere_0 : decode b8_areCoinsHere 0 = .ok (.aload_n 0, 1) := by decide +kernel
theorem d8_areCoinsHere_1 : decode b8_areCoinsHere 1 = .ok (.getfield 103, 3) := by decide +kernel
theorem d8_areCoinsHere_4 : decode b8_areCoinsHere 4 = .ok (.aload_n 0, 1) := by decide +kernel
theorem d8_areCoinsHere_5 : decode b8_areCoinsHere 5 = .ok (.getfield 106, 3) := by decide +kernel
theorem d8_areCoinsHere_8 : decode b8_areCoinsHere 8 = .ok (.isub, 1) := by decide +kernel
theorem d8_areCoinsHere_9 : decode b8_areCoinsHere 9 = .ok (.bipush 8, 2) := by decide +kernel
theorem d8_areCoinsHere_11 : decode b8_areCoinsHere 11 = .ok (.if_icmp .le 5, 3) := by decide +kernel
theorem d8_areCoinsHere_14 : decode b8_areCoinsHere 14 = .ok (.iconst 0, 1) := by decide +kernel
theorem d8_areCoinsHere_15 : decode b8_areCoinsHere 15 = .ok (.ireturn, 1) := by decide +kernel
theorem d8_areCoinsHere_16 : decode b8_areCoinsHere 16 = .ok (.aload_n 0, 1) := by decide +kernel
theorem d8_areCoinsHere_17 : decode b8_areCoinsHere 17 = .ok (.getfield 106, 3) := by decide +kernel
theorem d8_areCoinsHere_20 : decode b8_areCoinsHere 20 = .ok (.istore_n 1, 1) := by decide +kernel
theorem d8_areCoinsHere_21 : decode b8_areCoinsHere 21 = .ok (.iload_n 1, 1) := by decide +kernel
theorem d8_areCoinsHere_22 : decode b8_areCoinsHere 22 = .ok (.aload_n 0, 1) := by decide +kernel
theorem d8_areCoinsHere_23 : decode b8_areCoinsHere 23 = .ok (.getfield 103, 3) := by decide +kernel
theorem d8_areCoinsHere_26 : decode b8_areCoinsHere 26 = .ok (.if_icmp .ge 24, 3) := by decide +kernel
theorem d8_areCoinsHere_29 : decode b8_areCoinsHere 29 = .ok (.aload_n 0, 1) := by decide +kernel
theorem d8_areCoinsHere_30 : decode b8_areCoinsHere 30 = .ok (.getfield 128, 3) := by decide +kernel
theorem d8_areCoinsHere_33 : decode b8_areCoinsHere 33 = .ok (.iload_n 1, 1) := by decide +kernel
theorem d8_areCoinsHere_34 : decode b8_areCoinsHere 34 = .ok (.invokevirtual 132, 3) := by decide +kernel
theorem d8_areCoinsHere_37 : decode b8_areCoinsHere 37 = .ok (.bipush 49, 2) := by decide +kernel
theorem d8_areCoinsHere_39 : decode b8_areCoinsHere 39 = .ok (.if_icmp .le 5, 3) := by decide +kernel
theorem d8_areCoinsHere_42 : decode b8_areCoinsHere 42 = .ok (.iconst 0, 1) := by decide +kernel
theorem d8_areCoinsHere_43 : decode b8_areCoinsHere 43 = .ok (.ireturn, 1) := by decide +kernel
theorem d8_areCoinsHere_44 : decode b8_areCoinsHere 44 = .ok (.iinc 1 1, 3) := by decide +kernel
theorem d8_areCoinsHere_47 : decode b8_areCoinsHere 47 = .ok (.goto (-26), 3) := by decide +kernel
theorem d8_areCoinsHere_50 : decode b8_areCoinsHere 50 = .ok (.iconst 1, 1) := by decide +kernel
theorem d8_areCoinsHere_51 : decode b8_areCoinsHere 51 = .ok (.ireturn, 1) := by decide +kernel
def f8_areCoinsHere_b21 (F : Nat) (x1 : Int32) (h : Hp) : Option ((Int32 × Hp) ⊕ ((Int32 × Hp) ⊕ (Hp))) :=
  if (h 1 3) ≤ x1 then
    some (.inr (.inr h))
  else
    Option.bind (f7_byteAt F x1 h) (fun o34 =>
      if o34.1 ≤ (49 : Int32) then
        some (.inl (x1 + (1 : Int32), o34.2))
      else
        some (.inr (.inl ((0 : Int32), o34.2))))
set_option maxRecDepth 20000 in
theorem l8_areCoinsHere_21 (C : ce_Cx p s m args c meth b8_areCoinsHere 2 (some .boolean) cn_8 D ad cA B0 (ce_St aK aV B0)) (F : Nat)   (r : Int32 × Hp) (g : ((Int32 × Hp) ⊕ (Hp)) → Option (Int32 × Hp)) (hx : ∀  (h : Hp) (H : Heap) (locs : List Loc) (ls : Array Slot), ce_H D ad cA B0 [] s h H locs → lv_has ls 2 [] → g (.inr h) = some r → W p l e0 { frames := 1, cells := 0, slots := 0, locals := 21 } s m args below meth c H locs 0 0 (MQ below (ce_Q D ad cA B0 (ce_St aK aV B0) (some (.int r.1)) r.2) args s 0 0 (fun q => B0 ≤ q)) (F0 m 50 ls [])) (he : ∀ z, g (.inl z) = some z) : ∀ (n : Nat) (x1 : Int32) (h : Hp) (H : Heap) (locs : List Loc) (ls : Array Slot), ce_H D ad cA B0 [] s h H locs → lv_has ls 2 [(0, .ref (ad 1)), (1, .int x1)] → Option.bind (ce_it (fun (st : Int32 × Hp) => f8_areCoinsHere_b21 F  st.1 st.2) n (x1, h)) g = some r → W p l e0 { frames := 1, cells := 0, slots := 0, locals := 21 } s m args below meth c H locs 0 0 (MQ below (ce_Q D ad cA B0 (ce_St aK aV B0) (some (.int r.1)) r.2) args s 0 0 (fun q => B0 ≤ q)) (F0 m 21 ls []) := by
  intro n
  induction n with
  | zero =>
    intro x1 h H locs ls hH hl e
    exact absurd e (fun z => by cases z)
  | succ n ih =>
    intro x1 h H locs ls hH hl e
    have hx9 := C.1
    have hb := C.2.1
    have e : Option.bind (f8_areCoinsHere_b21 F  x1 h) _ = some r := ce_it_bd e
    unfold f8_areCoinsHere_b21 at e
    refine lv_iload_n hx9 hb d8_areCoinsHere_21 rfl (lv_at hl 1 rfl) ?_
    refine lv_aload_n hx9 hb d8_areCoinsHere_22 rfl (lv_at hl 0 rfl) ?_
    refine gf_8_103 C hH d8_areCoinsHere_23 ?_
    refine lv_icmp_ge (tgt := 50) hx9 hb d8_areCoinsHere_26 (by decide) (fun hc26 => ?_) (fun hc26 => ?_)
    · have e := ce_if1 e hc26
      exact hx  h _ _ _ hH (lv_sub hl [] rfl) e
    · have e := ce_if0 e hc26
      refine lv_aload_n hx9 hb d8_areCoinsHere_29 rfl (lv_at hl 0 rfl) ?_
      refine gf_8_128 C hH d8_areCoinsHere_30 ?_
      refine lv_iload_n hx9 hb d8_areCoinsHere_33 rfl (lv_at hl 1 rfl) ?_
      obtain ⟨o34, eo34, e⟩ := ce_bd e
      refine ce_callV (As := [.int x1]) (rest := []) C (ce_sok aK aV B0) hH (c7_byteAt l D ad cA aK aV B0 C.2.2.2.2.2.2.1 F x1  h o34 eo34) lo_2.1 lo_2.2.choose_spec rfl rfl mc7_byteAt ml_8_132 mi7_byteAt ms7_byteAt mI_7 (n := 1) (by decide) rfl ⟨Nat.le_of_ble_eq_true rfl, Nat.le_of_ble_eq_true rfl⟩ ⟨Nat.le_of_ble_eq_true rfl, Nat.le_of_ble_eq_true rfl⟩ hl.1 rfl (Nat.le_of_ble_eq_true rfl) d8_areCoinsHere_34 (fun H locs hH => ?_)
      refine W.eq (g2 := F0 m 37 ls [.int o34.1]) rfl ?_
      refine lv_bipush (v := (49 : Int32)) hx9 hb d8_areCoinsHere_37 (by decide) ?_
      refine lv_icmp_le (tgt := 44) hx9 hb d8_areCoinsHere_39 (by decide) (fun hc39 => ?_) (fun hc39 => ?_)
      · have e := ce_if1 e hc39
        refine lv_iinc (v := x1 + (1 : Int32)) (lv' := [(1, .int (x1 + (1 : Int32))), (0, .ref (ad 1))]) hx9 hb d8_areCoinsHere_44 hl (k := 1) rfl rfl (by decide) rfl (fun ls hl => ?_)
        refine lv_goto (tgt := 21) hx9 hb d8_areCoinsHere_47 (by decide) ?_
        exact ih (x1 + (1 : Int32)) o34.2 _ _ _ hH (lv_sub hl [1, 0] rfl) e
      · have e := ce_if0 e hc39
        refine lv_iconst (v := (0 : Int32)) hx9 hb d8_areCoinsHere_42 (by decide) ?_
        have e := (he _).symm.trans e
        exact ce_zretE C (ce_sok aK aV B0) hH (Or.inl rfl) e d8_areCoinsHere_43
def f8_areCoinsHere (F : Nat)  (h : Hp) : Option (Int32 × Hp) :=
  if ((h 1 3) - (h 1 2)) ≤ (8 : Int32) then
    Option.bind (ce_it (fun (st : Int32 × Hp) => f8_areCoinsHere_b21 F  st.1 st.2) F (h 1 2, h)) (fun o21w => match o21w with
      | .inl z => some z
      | .inr o21 =>
        some ((1 : Int32), o21))
  else
    some ((0 : Int32), h)
set_option maxRecDepth 20000 in
theorem c8_areCoinsHere (l : Launch) (D : va_G) (ad : Nat → Nat) (cA : Nat → ClassId) (aK aV : Nat → Nat) (B0 : Nat) (hA : ce_Ad ad B0) (F : Nat)   (h : Hp) (r : Int32 × Hp) (e : f8_areCoinsHere F  h = some r) : ce_Ct l D ad cA B0 (ce_St aK aV B0) y8_areCoinsHere b8_areCoinsHere 2 (some .boolean) 1 21 0 0 [.ref (ad 1)] h (some (.int r.1)) r.2 := by
  refine ce_enter hA (by decide) rfl (Nat.le_of_ble_eq_true rfl) (fun p e0 s m below meth c ls C hH hl => ?_)
  have hl : lv_has ls 2 [(0, .ref (ad 1))] := hl
  have hx := C.1
  have hb := C.2.1
  have e : Option.bind _ some = some r := (congrArg (fun z => Option.bind z some) e).trans rfl
  unfold f8_areCoinsHere at e
  refine lv_aload_n hx hb d8_areCoinsHere_0 rfl (lv_at hl 0 rfl) ?_
  refine gf_8_103 C hH d8_areCoinsHere_1 ?_
  refine lv_aload_n hx hb d8_areCoinsHere_4 rfl (lv_at hl 0 rfl) ?_
  refine gf_8_106 C hH d8_areCoinsHere_5 ?_
  refine lv_isub hx hb d8_areCoinsHere_8 ?_
  refine lv_bipush (v := (8 : Int32)) hx hb d8_areCoinsHere_9 (by decide) ?_
  refine lv_icmp_le (tgt := 16) hx hb d8_areCoinsHere_11 (by decide) (fun hc11 => ?_) (fun hc11 => ?_)
  · have e := ce_if1 e hc11
    refine lv_aload_n hx hb d8_areCoinsHere_16 rfl (lv_at hl 0 rfl) ?_
    refine gf_8_106 C hH d8_areCoinsHere_17 ?_
    refine lv_istore_n (lv' := [(1, .int (h 1 2)), (0, .ref (ad 1))]) hx hb d8_areCoinsHere_20 rfl hl (by decide) rfl (fun ls hl => ?_)
    refine l8_areCoinsHere_21 C F   r _ (fun  h_21 H locs ls hH hl e => ?_) (fun z => rfl) F (h 1 2) h _ _ _ hH (lv_sub hl [1, 0] rfl) (ce_as e)
    try dsimp only at e
    refine lv_iconst (v := (1 : Int32)) hx hb d8_areCoinsHere_50 (by decide) ?_
    exact ce_zretE C (ce_sok aK aV B0) hH (Or.inr rfl) e d8_areCoinsHere_51
  · have e := ce_if0 e hc11
    refine lv_iconst (v := (0 : Int32)) hx hb d8_areCoinsHere_14 (by decide) ?_
    exact ce_zretE C (ce_sok aK aV B0) hH (Or.inl rfl) e d8_areCoinsHere_15
abbrev b8_readCoins : ByteArray := prog_10_method_10_code
def y8_readCoins : MethodName := ⟨cn_8, "readCoins", "(LCableElection$Reading;LCableElection$Net;I)V"⟩
theorem d8_readCoins_0 : decode b8_readCoins 0 = .ok (.aload_n 1, 1) := by decide +kernel
theorem d8_readCoins_1 : decode b8_readCoins 1 = .ok (.ldc 122, 2) := by decide +kernel
theorem d8_readCoins_3 : decode b8_readCoins 3 = .ok (.invokevirtual 38, 3) := by decide +kernel
theorem d8_readCoins_6 : decode b8_readCoins 6 = .ok (.ifCond .ne 4, 3) := by decide +kernel
theorem d8_readCoins_9 : decode b8_readCoins 9 = .ok (.return_, 1) := by decide +kernel
theorem d8_readCoins_10 : decode b8_readCoins 10 = .ok (.aload_n 1, 1) := by decide +kernel
theorem d8_readCoins_11 : decode b8_readCoins 11 = .ok (.invokevirtual 117, 3) := by decide +kernel
theorem d8_readCoins_14 : decode b8_readCoins 14 = .ok (.aload_n 1, 1) := by decide +kernel
theorem d8_readCoins_15 : decode b8_readCoins 15 = .ok (.getfield 100, 3) := by decide +kernel
theorem d8_readCoins_18 : decode b8_readCoins 18 = .ok (.iconst 2, 1) := by decide +kernel
theorem d8_readCoins_19 : decode b8_readCoins 19 = .ok (.if_icmp .eq 9, 3) := by decide +kernel
theorem d8_readCoins_22 : decode b8_readCoins 22 = .ok (.aload_n 1, 1) := by decide +kernel
theorem d8_readCoins_23 : decode b8_readCoins 23 = .ok (.iconst 1, 1) := by decide +kernel
theorem d8_readCoins_24 : decode b8_readCoins 24 = .ok (.invokevirtual 50, 3) := by decide +kernel
theorem d8_readCoins_27 : decode b8_readCoins 27 = .ok (.return_, 1) := by decide +kernel
theorem d8_readCoins_28 : decode b8_readCoins 28 = .ok (.aload_n 1, 1) := by decide +kernel
theorem d8_readCoins_29 : decode b8_readCoins 29 = .ok (.invokestatic 142, 3) := by decide +kernel
theorem d8_readCoins_32 : decode b8_readCoins 32 = .ok (.ifCond .ne 9, 3) := by decide +kernel
theorem d8_readCoins_35 : decode b8_readCoins 35 = .ok (.aload_n 1, 1) := by decide +kernel
theorem d8_readCoins_36 : decode b8_readCoins 36 = .ok (.iconst 2, 1) := by decide +kernel
theorem d8_readCoins_37 : decode b8_readCoins 37 = .ok (.invokevirtual 50, 3) := by decide +kernel
theorem d8_readCoins_40 : decode b8_readCoins 40 = .ok (.return_, 1) := by decide +kernel
theorem d8_readCoins_41 : decode b8_readCoins 41 = .ok (.aload_n 2, 1) := by decide +kernel
theorem d8_readCoins_42 : decode b8_readCoins 42 = .ok (.getfield 145, 3) := by decide +kernel
theorem d8_readCoins_45 : decode b8_readCoins 45 = .ok (.iload_n 3, 1) := by decide +kernel
theorem d8_readCoins_46 : decode b8_readCoins 46 = .ok (.aload_n 1, 1) := by decide +kernel
theorem d8_readCoins_47 : decode b8_readCoins 47 = .ok (.getfield 103, 3) := by decide +kernel
theorem d8_readCoins_50 : decode b8_readCoins 50 = .ok (.aload_n 1, 1) := by decide +kernel
theorem d8_readCoins_51 : decode b8_readCoins 51 = .ok (.getfield 106, 3) := by decide +kernel
theorem d8_readCoins_54 : decode b8_readCoins 54 = .ok (.isub, 1) := by decide +kernel
theorem d8_readCoins_55 : decode b8_readCoins 55 = .ok (.iastore, 1) := by decide +kernel
theorem d8_readCoins_56 : decode b8_readCoins 56 = .ok (.iconst 0, 1) := by decide +kernel
theorem d8_readCoins_57 : decode b8_readCoins 57 = .ok (.istore 4, 2) := by decide +kernel
theorem d8_readCoins_59 : decode b8_readCoins 59 = .ok (.iload 4, 2) := by decide +kernel
theorem d8_readCoins_61 : decode b8_readCoins 61 = .ok (.aload_n 2, 1) := by decide +kernel
theorem d8_readCoins_62 : decode b8_readCoins 62 = .ok (.getfield 145, 3) := by decide +kernel
theorem d8_readCoins_65 : decode b8_readCoins 65 = .ok (.iload_n 3, 1) := by decide +kernel
theorem d8_readCoins_66 : decode b8_readCoins 66 = .ok (.iaload, 1) := by decide +kernel
theorem d8_readCoins_67 : decode b8_readCoins 67 = .ok (.if_icmp .ge 38, 3) := by decide +kernel
theorem d8_readCoins_70 : decode b8_readCoins 70 = .ok (.aload_n 2, 1) := by decide +kernel
theorem d8_readCoins_71 : decode b8_readCoins 71 = .ok (.getfield 148, 3) := by decide +kernel
theorem d8_readCoins_74 : decode b8_readCoins 74 = .ok (.iload_n 3, 1) := by decide +kernel
theorem d8_readCoins_75 : decode b8_readCoins 75 = .ok (.dup2, 1) := by decide +kernel
theorem d8_readCoins_76 : decode b8_readCoins 76 = .ok (.iaload, 1) := by decide +kernel
theorem d8_readCoins_77 : decode b8_readCoins 77 = .ok (.aload_n 1, 1) := by decide +kernel
theorem d8_readCoins_78 : decode b8_readCoins 78 = .ok (.getfield 128, 3) := by decide +kernel
theorem d8_readCoins_81 : decode b8_readCoins 81 = .ok (.aload_n 1, 1) := by decide +kernel
theorem d8_readCoins_82 : decode b8_readCoins 82 = .ok (.getfield 106, 3) := by decide +kernel
theorem d8_readCoins_85 : decode b8_readCoins 85 = .ok (.iload 4, 2) := by decide +kernel
theorem d8_readCoins_87 : decode b8_readCoins 87 = .ok (.iadd, 1) := by decide +kernel
theorem d8_readCoins_88 : decode b8_readCoins 88 = .ok (.invokevirtual 132, 3) := by decide +kernel
theorem d8_readCoins_91 : decode b8_readCoins 91 = .ok (.bipush 48, 2) := by decide +kernel
theorem d8_readCoins_93 : decode b8_readCoins 93 = .ok (.isub, 1) := by decide +kernel
theorem d8_readCoins_94 : decode b8_readCoins 94 = .ok (.iload 4, 2) := by decide +kernel
theorem d8_readCoins_96 : decode b8_readCoins 96 = .ok (.ishl, 1) := by decide +kernel
theorem d8_readCoins_97 : decode b8_readCoins 97 = .ok (.ior, 1) := by decide +kernel
theorem d8_readCoins_98 : decode b8_readCoins 98 = .ok (.iastore, 1) := by decide +kernel
theorem d8_readCoins_99 : decode b8_readCoins 99 = .ok (.iinc 4 1, 3) := by decide +kernel
theorem d8_readCoins_102 : decode b8_readCoins 102 = .ok (.goto (-43), 3) := by decide +kernel
theorem d8_readCoins_105 : decode b8_readCoins 105 = .ok (.aload_n 1, 1) := by decide +kernel
theorem d8_readCoins_106 : decode b8_readCoins 106 = .ok (.invokevirtual 117, 3) := by decide +kernel
theorem d8_readCoins_109 : decode b8_readCoins 109 = .ok (.return_, 1) := by decide +kernel
theorem fl_8_145 : Cond.fieldLink cn_8 145 (ft_5 8).1 (ft_5 8).2.1 (ft_5 8).2.2.1 ∈ ce_cm := ce_cm_of (List.mem_of_getElem? (i := 228) (by decide +kernel)) (by decide +kernel)
theorem gf_8_145 (C : ce_Cx p s m args c meth cc nL ret cn_8 D ad cA B0 (ce_St aK aV B0)) (hH : ce_H D ad cA B0 X s h H locs) {k : Nat} (hk : ce_isNet k) (hdg : decode cc pc = .ok (.getfield 145, 3)) (kk : W p l e0 R s m args below meth c H locs cells slots Q (F0 m (pc + 3) ls (.ref (ad (k + 4)) :: rest))) : W p l e0 R s m args below meth c H locs cells slots Q (F0 m pc ls (.ref (ad k) :: rest)) := by
  rcases hk with rfl | rfl
  · exact ce_get C hH (k := 7) (ci := 5) (j := 8) (N := 11) (sj := some (some 11)) (by decide) rfl rfl fw_5 (by decide) fl_8_145 rfl hdg kk
  · exact ce_get C hH (k := 14) (ci := 5) (j := 8) (N := 11) (sj := some (some 18)) (by decide) rfl rfl fw_5 (by decide) fl_8_145 rfl hdg kk
theorem fl_8_148 : Cond.fieldLink cn_8 148 (ft_5 7).1 (ft_5 7).2.1 (ft_5 7).2.2.1 ∈ ce_cm := ce_cm_of (List.mem_of_getElem? (i := 226) (by decide +kernel)) (by decide +kernel)
theorem gf_8_148 (C : ce_Cx p s m args c meth cc nL ret cn_8 D ad cA B0 (ce_St aK aV B0)) (hH : ce_H D ad cA B0 X s h H locs) {k : Nat} (hk : ce_isNet k) (hdg : decode cc pc = .ok (.getfield 148, 3)) (kk : W p l e0 R s m args below meth c H locs cells slots Q (F0 m (pc + 3) ls (.ref (ad (k + 3)) :: rest))) : W p l e0 R s m args below meth c H locs cells slots Q (F0 m pc ls (.ref (ad k) :: rest)) := by
  rcases hk with rfl | rfl
  · exact ce_get C hH (k := 7) (ci := 5) (j := 7) (N := 11) (sj := some (some 10)) (by decide) rfl rfl fw_5 (by decide) fl_8_148 rfl hdg kk
  · exact ce_get C hH (k := 14) (ci := 5) (j := 7) (N := 11) (sj := some (some 17)) (by decide) rfl rfl fw_5 (by decide) fl_8_148 rfl hdg kk
theorem mc8_areCoinsHere : Cond.code y8_areCoinsHere b8_areCoinsHere 2 (some .boolean) ∈ ce_cm := ce_cm_of (List.mem_of_getElem? (i := 645) (by decide +kernel)) (by decide +kernel)
theorem ml_8_142 : Cond.methodLink cn_8 142 y8_areCoinsHere ∈ ce_cm := ce_cm_of (List.mem_of_getElem? (i := 643) (by decide +kernel)) (by decide +kernel)
theorem mt8_areCoinsHere : Cond.static y8_areCoinsHere ∈ ce_cm := ce_cm_of (List.mem_of_getElem? (i := 644) (by decide +kernel)) (by decide +kernel)
def f8_readCoins_b59 (F : Nat) (k2 : Nat) (x3 : Int32) (x4 : Int32) (h : Hp) : Option ((Int32 × Hp) ⊕ (Hp)) :=
  if ce_in x3 10 = true then
    if (h (k2 + 4) (x3).toNatClampNeg) ≤ x4 then
      some (.inr h)
    else
      if ce_in x3 10 = true then
        Option.bind (f7_byteAt F ((h 1 2) + x4) h) (fun o88 =>
          if ce_in x3 10 = true then
            ce_nm (hp_up o88.2 (k2 + 3) (x3).toNatClampNeg ((h (k2 + 3) (x3).toNatClampNeg) ||| ((o88.1 - (48 : Int32)) <<< (x4 &&& 31)))) (fun h_98 =>
              some (.inl (x4 + (1 : Int32), h_98)))
          else none)
      else none
  else none
set_option maxRecDepth 20000 in
theorem l8_readCoins_59 (C : ce_Cx p s m args c meth b8_readCoins 5 none cn_8 D ad cA B0 (ce_St aK aV B0)) (F : Nat) (k2 : Nat) (x3 : Int32) (hk2 : ce_isNet k2) (r : Hp) (g : (Hp) → Option (Hp)) (hx : ∀  (h : Hp) (H : Heap) (locs : List Loc) (ls : Array Slot), ce_H D ad cA B0 [] s h H locs → lv_has ls 5 [(1, .ref (ad 1))] → g h = some r → W p l e0 { frames := 10, cells := 0, slots := 0, locals := 243 } s m args below meth c H locs 0 0 (MQ below (ce_Q D ad cA B0 (ce_St aK aV B0) none r) args s 0 0 (fun q => B0 ≤ q)) (F0 m 105 ls [])) : ∀ (n : Nat) (x4 : Int32) (h : Hp) (H : Heap) (locs : List Loc) (ls : Array Slot), ce_H D ad cA B0 [] s h H locs → lv_has ls 5 [(1, .ref (ad 1)), (2, .ref (ad k2)), (3, .int x3), (4, .int x4)] → Option.bind (ce_it (fun (st : Int32 × Hp) => f8_readCoins_b59 F k2 x3 st.1 st.2) n (x4, h)) g = some r → W p l e0 { frames := 10, cells := 0, slots := 0, locals := 243 } s m args below meth c H locs 0 0 (MQ below (ce_Q D ad cA B0 (ce_St aK aV B0) none r) args s 0 0 (fun q => B0 ≤ q)) (F0 m 59 ls []) := by
  intro n
  induction n with
  | zero =>
    intro x4 h H locs ls hH hl e
    exact absurd e (fun z => by cases z)
  | succ n ih =>
    intro x4 h H locs ls hH hl e
    have hx9 := C.1
    have hb := C.2.1
    have e : Option.bind (f8_readCoins_b59 F k2 x3 x4 h) _ = some r := ce_it_bd e
    unfold f8_readCoins_b59 at e
    refine lv_iload hx9 hb d8_readCoins_59 (lv_at hl 3 rfl) ?_
    refine lv_aload_n hx9 hb d8_readCoins_61 rfl (lv_at hl 1 rfl) ?_
    refine gf_8_145 C hH hk2 d8_readCoins_62 ?_
    refine lv_iload_n hx9 hb d8_readCoins_65 rfl (lv_at hl 2 rfl) ?_
    obtain ⟨hi66, e⟩ := ce_gd e
    refine ce_iald C hH (la_Net_4 hk2).1 (la_Net_4 hk2).2 (ce_in_vp hi66) d8_readCoins_66 ?_
    refine lv_icmp_ge (tgt := 105) hx9 hb d8_readCoins_67 (by decide) (fun hc67 => ?_) (fun hc67 => ?_)
    · have e := ce_if1 e hc67
      exact hx  h _ _ _ hH (lv_sub hl [0] rfl) e
    · have e := ce_if0 e hc67
      refine lv_aload_n hx9 hb d8_readCoins_70 rfl (lv_at hl 1 rfl) ?_
      refine gf_8_148 C hH hk2 d8_readCoins_71 ?_
      refine lv_iload_n hx9 hb d8_readCoins_74 rfl (lv_at hl 2 rfl) ?_
      refine lv_dup2_11 hx9 hb d8_readCoins_75 rfl rfl ?_
      obtain ⟨hi76, e⟩ := ce_gd e
      refine ce_iald C hH (la_Net_3 hk2).1 (la_Net_3 hk2).2 (ce_in_vp hi76) d8_readCoins_76 ?_
      refine lv_aload_n hx9 hb d8_readCoins_77 rfl (lv_at hl 0 rfl) ?_
      refine gf_8_128 C hH d8_readCoins_78 ?_
      refine lv_aload_n hx9 hb d8_readCoins_81 rfl (lv_at hl 0 rfl) ?_
      refine gf_8_106 C hH d8_readCoins_82 ?_
      refine lv_iload hx9 hb d8_readCoins_85 (lv_at hl 3 rfl) ?_
      refine lv_iadd hx9 hb d8_readCoins_87 ?_
      obtain ⟨o88, eo88, e⟩ := ce_bd e
      refine ce_callV (As := [.int ((h 1 2) + x4)]) (rest := [.int (h (k2 + 3) (x3).toNatClampNeg), .int x3, .ref (ad (k2 + 3))]) C (ce_sok aK aV B0) hH (c7_byteAt l D ad cA aK aV B0 C.2.2.2.2.2.2.1 F ((h 1 2) + x4)  h o88 eo88) lo_2.1 lo_2.2.choose_spec rfl rfl mc7_byteAt ml_8_132 mi7_byteAt ms7_byteAt mI_7 (n := 1) (by decide) rfl ⟨Nat.le_of_ble_eq_true rfl, Nat.le_of_ble_eq_true rfl⟩ ⟨Nat.le_of_ble_eq_true rfl, Nat.le_of_ble_eq_true rfl⟩ hl.1 rfl (Nat.le_of_ble_eq_true rfl) d8_readCoins_88 (fun H locs hH => ?_)
      refine W.eq (g2 := F0 m 91 ls [.int o88.1, .int (h (k2 + 3) (x3).toNatClampNeg), .int x3, .ref (ad (k2 + 3))]) rfl ?_
      refine lv_bipush (v := (48 : Int32)) hx9 hb d8_readCoins_91 (by decide) ?_
      refine lv_isub hx9 hb d8_readCoins_93 ?_
      refine lv_iload hx9 hb d8_readCoins_94 (lv_at hl 3 rfl) ?_
      refine lv_ishl hx9 hb d8_readCoins_96 ?_
      refine lv_ior hx9 hb d8_readCoins_97 ?_
      obtain ⟨hi98, e⟩ := ce_gd e
      refine ce_iast C hH (la_Net_3 hk2).1 (la_Net_3 hk2).2 (ce_in_vp hi98) d8_readCoins_98 (fun H locs hH => ?_)
      obtain ⟨h_98, eh_98, e⟩ := ce_nmE e
      rw [← eh_98] at hH
      refine lv_iinc (v := x4 + (1 : Int32)) (lv' := [(4, .int (x4 + (1 : Int32))), (1, .ref (ad 1)), (2, .ref (ad k2)), (3, .int x3)]) hx9 hb d8_readCoins_99 hl (k := 3) rfl rfl (by decide) rfl (fun ls hl => ?_)
      refine lv_goto (tgt := 59) hx9 hb d8_readCoins_102 (by decide) ?_
      exact ih (x4 + (1 : Int32)) h_98 _ _ _ hH (lv_sub hl [1, 2, 3, 0] rfl) e
def f8_readCoins (F : Nat) (k2 : Nat) (x3 : Int32) (h : Hp) : Option (Hp) :=
  Option.bind (f6_isWord F 6 h) (fun o3 =>
    if o3.1 = 0 then
      some o3.2
    else
      Option.bind (f6_advance F  o3.2) (fun o11 =>
        if (o11 1 1) = (2 : Int32) then
          Option.bind (f8_areCoinsHere F  o11) (fun o29 =>
            if o29.1 = 0 then
              Option.bind (f6_refuse F (2 : Int32) o29.2) (fun o37 =>
                some o37)
            else
              if ce_in x3 10 = true then
                ce_nm (hp_up o29.2 (k2 + 4) (x3).toNatClampNeg ((o29.2 1 3) - (o29.2 1 2))) (fun h_55 =>
                  Option.bind (ce_it (fun (st : Int32 × Hp) => f8_readCoins_b59 F k2 x3 st.1 st.2) F ((0 : Int32), h_55)) (fun o59 =>
                    Option.bind (f6_advance F  o59) (fun o106 =>
                      some o106)))
              else none)
        else
          Option.bind (f6_refuse F (1 : Int32) o11) (fun o24 =>
            some o24)))
set_option maxRecDepth 20000 in
theorem c8_readCoins (l : Launch) (D : va_G) (ad : Nat → Nat) (cA : Nat → ClassId) (aK aV : Nat → Nat) (B0 : Nat) (hA : ce_Ad ad B0) (F : Nat) (k2 : Nat) (x3 : Int32) (hk2 : ce_isNet k2) (h : Hp) (r : Hp) (e : f8_readCoins F k2 x3 h = some r) : ce_Ct l D ad cA B0 (ce_St aK aV B0) y8_readCoins b8_readCoins 5 none 10 243 0 0 [.ref (ad 4), .ref (ad 1), .ref (ad k2), .int x3] h none r := by
  refine ce_enter hA (by decide) rfl (Nat.le_of_ble_eq_true rfl) (fun p e0 s m below meth c ls C hH hl => ?_)
  have hl : lv_has ls 5 [(0, .ref (ad 4)), (1, .ref (ad 1)), (2, .ref (ad k2)), (3, .int x3)] := hl
  have hx := C.1
  have hb := C.2.1
  have e : Option.bind _ some = some r := (congrArg (fun z => Option.bind z some) e).trans rfl
  unfold f8_readCoins at e
  refine lv_aload_n hx hb d8_readCoins_0 rfl (lv_at hl 1 rfl) ?_
  refine va_ldcS hx hb C.2.2.2.1 (ce_srR C.2.2.2.2.2.2.2.2.2.2 6 rfl) d8_readCoins_1 ?_
  obtain ⟨o3, eo3, e⟩ := ce_bd e
  refine ce_callV (As := [.ref (aK 6)]) (rest := []) C (ce_sok aK aV B0) hH (c6_isWord l D ad cA aK aV B0 C.2.2.2.2.2.2.1 F 6 (by decide) h o3 eo3) lo_1.1 lo_1.2.choose_spec rfl rfl mc6_isWord ml_8_38 mi6_isWord ms6_isWord mI_6 (n := 1) (by decide) rfl ⟨Nat.le_of_ble_eq_true rfl, Nat.le_of_ble_eq_true rfl⟩ ⟨Nat.le_of_ble_eq_true rfl, Nat.le_of_ble_eq_true rfl⟩ hl.1 rfl (Nat.le_of_ble_eq_true rfl) d8_readCoins_3 (fun H locs hH => ?_)
  refine W.eq (g2 := F0 m 6 ls [.int o3.1]) rfl ?_
  refine lv_if_ne (tgt := 10) hx hb d8_readCoins_6 (by decide) (fun hc6 => ?_) (fun hc6 => ?_)
  · have e := ce_if0 e hc6
    refine lv_aload_n hx hb d8_readCoins_10 rfl (lv_at hl 1 rfl) ?_
    obtain ⟨o11, eo11, e⟩ := ce_bd e
    refine ce_callV (As := []) (rest := []) C (ce_sok aK aV B0) hH (c6_advance l D ad cA aK aV B0 C.2.2.2.2.2.2.1 F   o3.2 o11 eo11) lo_1.1 lo_1.2.choose_spec rfl rfl mc6_advance ml_8_117 mi6_advance ms6_advance mI_6 (n := 0) (by decide) rfl ⟨Nat.le_of_ble_eq_true rfl, Nat.le_of_ble_eq_true rfl⟩ ⟨Nat.le_of_ble_eq_true rfl, Nat.le_of_ble_eq_true rfl⟩ hl.1 rfl (Nat.le_of_ble_eq_true rfl) d8_readCoins_11 (fun H locs hH => ?_)
    refine W.eq (g2 := F0 m 14 ls []) rfl ?_
    refine lv_aload_n hx hb d8_readCoins_14 rfl (lv_at hl 1 rfl) ?_
    refine gf_8_100 C hH d8_readCoins_15 ?_
    refine lv_iconst (v := (2 : Int32)) hx hb d8_readCoins_18 (by decide) ?_
    refine lv_icmp_eq (tgt := 28) hx hb d8_readCoins_19 (by decide) (fun hc19 => ?_) (fun hc19 => ?_)
    · have e := ce_if1 e hc19
      refine lv_aload_n hx hb d8_readCoins_28 rfl (lv_at hl 1 rfl) ?_
      obtain ⟨o29, eo29, e⟩ := ce_bd e
      refine ce_callS (As := [.ref (ad 1)]) (rest := []) C (ce_sok aK aV B0) hH (c8_areCoinsHere l D ad cA aK aV B0 C.2.2.2.2.2.2.1 F   o11 o29 eo29) mc8_areCoinsHere ml_8_142 mt8_areCoinsHere mI_8 (n := 1) (by decide) rfl ⟨Nat.le_of_ble_eq_true rfl, Nat.le_of_ble_eq_true rfl⟩ ⟨Nat.le_of_ble_eq_true rfl, Nat.le_of_ble_eq_true rfl⟩ hl.1 rfl (Nat.le_of_ble_eq_true rfl) d8_readCoins_29 (fun H locs hH => ?_)
      refine W.eq (g2 := F0 m 32 ls [.int o29.1]) rfl ?_
      refine lv_if_ne (tgt := 41) hx hb d8_readCoins_32 (by decide) (fun hc32 => ?_) (fun hc32 => ?_)
      · have e := ce_if0 e hc32
        refine lv_aload_n hx hb d8_readCoins_41 rfl (lv_at hl 2 rfl) ?_
        refine gf_8_145 C hH hk2 d8_readCoins_42 ?_
        refine lv_iload_n hx hb d8_readCoins_45 rfl (lv_at hl 3 rfl) ?_
        refine lv_aload_n hx hb d8_readCoins_46 rfl (lv_at hl 1 rfl) ?_
        refine gf_8_103 C hH d8_readCoins_47 ?_
        refine lv_aload_n hx hb d8_readCoins_50 rfl (lv_at hl 1 rfl) ?_
        refine gf_8_106 C hH d8_readCoins_51 ?_
        refine lv_isub hx hb d8_readCoins_54 ?_
        obtain ⟨hi55, e⟩ := ce_gd e
        refine ce_iast C hH (la_Net_4 hk2).1 (la_Net_4 hk2).2 (ce_in_vp hi55) d8_readCoins_55 (fun H locs hH => ?_)
        obtain ⟨h_55, eh_55, e⟩ := ce_nmE e
        rw [← eh_55] at hH
        refine lv_iconst (v := (0 : Int32)) hx hb d8_readCoins_56 (by decide) ?_
        refine lv_istore (lv' := [(4, .int (0 : Int32)), (0, .ref (ad 4)), (1, .ref (ad 1)), (2, .ref (ad k2)), (3, .int x3)]) hx hb d8_readCoins_57 hl (by decide) rfl (fun ls hl => ?_)
        refine l8_readCoins_59 C F k2 x3 hk2 r _ (fun  h_59 H locs ls hH hl e => ?_) F (0 : Int32) h_55 _ _ _ hH (lv_sub hl [2, 3, 4, 0] rfl) (ce_as e)
        try dsimp only at e
        refine lv_aload_n hx hb d8_readCoins_105 rfl (lv_at hl 0 rfl) ?_
        obtain ⟨o106, eo106, e⟩ := ce_bd e
        refine ce_callV (As := []) (rest := []) C (ce_sok aK aV B0) hH (c6_advance l D ad cA aK aV B0 C.2.2.2.2.2.2.1 F   h_59 o106 eo106) lo_1.1 lo_1.2.choose_spec rfl rfl mc6_advance ml_8_117 mi6_advance ms6_advance mI_6 (n := 0) (by decide) rfl ⟨Nat.le_of_ble_eq_true rfl, Nat.le_of_ble_eq_true rfl⟩ ⟨Nat.le_of_ble_eq_true rfl, Nat.le_of_ble_eq_true rfl⟩ hl.1 rfl (Nat.le_of_ble_eq_true rfl) d8_readCoins_106 (fun H locs hH => ?_)
        refine W.eq (g2 := F0 m 109 ls []) rfl ?_
        exact ce_vret C (ce_sok aK aV B0) hH (Option.some.inj e) d8_readCoins_109
      · have e := ce_if1 e hc32
        refine lv_aload_n hx hb d8_readCoins_35 rfl (lv_at hl 1 rfl) ?_
        refine lv_iconst (v := (2 : Int32)) hx hb d8_readCoins_36 (by decide) ?_
        obtain ⟨o37, eo37, e⟩ := ce_bd e
        refine ce_callV (As := [.int (2 : Int32)]) (rest := []) C (ce_sok aK aV B0) hH (c6_refuse l D ad cA aK aV B0 C.2.2.2.2.2.2.1 F (2 : Int32)  o29.2 o37 eo37) lo_1.1 lo_1.2.choose_spec rfl rfl mc6_refuse ml_8_50 mi6_refuse ms6_refuse mI_6 (n := 1) (by decide) rfl ⟨Nat.le_of_ble_eq_true rfl, Nat.le_of_ble_eq_true rfl⟩ ⟨Nat.le_of_ble_eq_true rfl, Nat.le_of_ble_eq_true rfl⟩ hl.1 rfl (Nat.le_of_ble_eq_true rfl) d8_readCoins_37 (fun H locs hH => ?_)
        refine W.eq (g2 := F0 m 40 ls []) rfl ?_
        exact ce_vret C (ce_sok aK aV B0) hH (Option.some.inj e) d8_readCoins_40
    · have e := ce_if0 e hc19
      refine lv_aload_n hx hb d8_readCoins_22 rfl (lv_at hl 1 rfl) ?_
      refine lv_iconst (v := (1 : Int32)) hx hb d8_readCoins_23 (by decide) ?_
      obtain ⟨o24, eo24, e⟩ := ce_bd e
      refine ce_callV (As := [.int (1 : Int32)]) (rest := []) C (ce_sok aK aV B0) hH (c6_refuse l D ad cA aK aV B0 C.2.2.2.2.2.2.1 F (1 : Int32)  o11 o24 eo24) lo_1.1 lo_1.2.choose_spec rfl rfl mc6_refuse ml_8_50 mi6_refuse ms6_refuse mI_6 (n := 1) (by decide) rfl ⟨Nat.le_of_ble_eq_true rfl, Nat.le_of_ble_eq_true rfl⟩ ⟨Nat.le_of_ble_eq_true rfl, Nat.le_of_ble_eq_true rfl⟩ hl.1 rfl (Nat.le_of_ble_eq_true rfl) d8_readCoins_24 (fun H locs hH => ?_)
      refine W.eq (g2 := F0 m 27 ls []) rfl ?_
      exact ce_vret C (ce_sok aK aV B0) hH (Option.some.inj e) d8_readCoins_27
  · have e := ce_if1 e hc6
    exact ce_vret C (ce_sok aK aV B0) hH (Option.some.inj e) d8_readCoins_9
end C6
