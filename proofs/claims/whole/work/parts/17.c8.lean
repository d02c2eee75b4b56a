-- C8: functions and contracts, written by wip/whole/gen (mgen.py, walk.py, walk2.py) out of the bytecode
section C8
variable {p : Program} {l : Launch} {e0 : Env} {R : Room} {s : State} {m : MethodId} {args : Array Value} {below : List Frame} {meth : Method} {c : Code} {H : Heap} {locs : List Loc} {cells slots : Nat} {Q : State → Prop}
variable {cc : ByteArray} {pc nL : Nat} {ret : Option FieldType} {ls : Array Slot} {rest : List Value} {D : va_G} {ad : Nat → Nat} {cA : Nat → ClassId} {B0 : Nat} {X : va_W} {h : Hp} {aK aV : Nat → Nat}
abbrev b11_port : ByteArray := prog_1_method_7_code
def y11_port : MethodName := ⟨cn_11, "port", "(III)I"⟩
theorem d11_port_0 : decode b11_port 0 = .ok (.aload_n 0, 1) := by decide +kernel
theorem d11_port_1 : decode b11_port 1 = .ok (.getfield 26, 3) := by decide +kernel
theorem d11_port_4 : decode b11_port 4 = .ok (.iload_n 1, 1) := by decide +kernel
theorem d11_port_5 : decode b11_port 5 = .ok (.iload_n 2, 1) := by decide +kernel
theorem d11_port_6 : decode b11_port 6 = .ok (.invokevirtual 143, 3) := by decide +kernel
theorem d11_port_9 : decode b11_port 9 = .ok (.ifCond .eq 12, 3) := by decide +kernel
theorem d11_port_12 : decode b11_port 12 = .ok (.iload_n 3, 1) := by decide +kernel
theorem d11_port_13 : decode b11_port 13 = .ok (.ifCond .lt 8, 3) := by decide +kernel
theorem d11_port_16 : decode b11_port 16 = .ok (.iload_n 3, 1) := by decide +kernel
theorem d11_port_17 : decode b11_port 17 = .ok (.iconst 3, 1) := by decide +kernel
theorem d11_port_18 : decode b11_port 18 = .ok (.if_icmp .le 6, 3) := by decide +kernel
theorem d11_port_21 : decode b11_port 21 = .ok (.bipush (-2), 2) := by decide +kernel
theorem d11_port_23 : decode b11_port 23 = .ok (.ireturn, 1) := by decide +kernel
theorem d11_port_24 : decode b11_port 24 = .ok (.iload_n 1, 1) := by decide +kernel
theorem d11_port_25 : decode b11_port 25 = .ok (.iload_n 2, 1) := by decide +kernel
theorem d11_port_26 : decode b11_port 26 = .ok (.invokestatic 147, 3) := by decide +kernel
theorem d11_port_29 : decode b11_port 29 = .ok (.istore 4, 2) := by decide +kernel
theorem d11_port_31 : decode b11_port 31 = .ok (.aload_n 0, 1) := by decide +kernel
theorem d11_port_32 : decode b11_port 32 = .ok (.getfield 26, 3) := by decide +kernel
theorem d11_port_35 : decode b11_port 35 = .ok (.getfield 151, 3) := by decide +kernel
theorem d11_port_38 : decode b11_port 38 = .ok (.iload 4, 2) := by decide +kernel
theorem d11_port_40 : decode b11_port 40 = .ok (.iaload, 1) := by decide +kernel
theorem d11_port_41 : decode b11_port 41 = .ok (.istore 5, 2) := by decide +kernel
theorem d11_port_43 : decode b11_port 43 = .ok (.iload_n 3, 1) := by decide +kernel
theorem d11_port_44 : decode b11_port 44 = .ok (.ifCond .ne 17, 3) := by decide +kernel
theorem d11_port_47 : decode b11_port 47 = .ok (.aload_n 0, 1) := by decide +kernel
theorem d11_port_48 : decode b11_port 48 = .ok (.getfield 67, 3) := by decide +kernel
theorem d11_port_51 : decode b11_port 51 = .ok (.aload_n 0, 1) := by decide +kernel
theorem d11_port_52 : decode b11_port 52 = .ok (.getfield 26, 3) := by decide +kernel
theorem d11_port_55 : decode b11_port 55 = .ok (.iload 4, 2) := by decide +kernel
theorem d11_port_57 : decode b11_port 57 = .ok (.invokevirtual 155, 3) := by decide +kernel
theorem d11_port_60 : decode b11_port 60 = .ok (.ireturn, 1) := by decide +kernel
theorem d11_port_61 : decode b11_port 61 = .ok (.iload 5, 2) := by decide +kernel
theorem d11_port_63 : decode b11_port 63 = .ok (.iconst (-1), 1) := by decide +kernel
theorem d11_port_64 : decode b11_port 64 = .ok (.if_icmp .ne 5, 3) := by decide +kernel
theorem d11_port_67 : decode b11_port 67 = .ok (.iconst (-1), 1) := by decide +kernel
theorem d11_port_68 : decode b11_port 68 = .ok (.ireturn, 1) := by decide +kernel
theorem d11_port_69 : decode b11_port 69 = .ok (.iload_n 3, 1) := by decide +kernel
theorem d11_port_70 : decode b11_port 70 = .ok (.iconst 1, 1) := by decide +kernel
theorem d11_port_71 : decode b11_port 71 = .ok (.if_icmp .ne 9, 3) := by decide +kernel
theorem d11_port_74 : decode b11_port 74 = .ok (.iload 5, 2) := by decide +kernel
theorem d11_port_76 : decode b11_port 76 = .ok (.invokestatic 159, 3) := by decide +kernel
theorem d11_port_79 : decode b11_port 79 = .ok (.ireturn, 1) := by decide +kernel
theorem d11_port_80 : decode b11_port 80 = .ok (.iload_n 3, 1) := by decide +kernel
theorem d11_port_81 : decode b11_port 81 = .ok (.iconst 2, 1) := by decide +kernel
theorem d11_port_82 : decode b11_port 82 = .ok (.if_icmp .ne 11, 3) := by decide +kernel
theorem d11_port_85 : decode b11_port 85 = .ok (.iload 5, 2) := by decide +kernel
theorem d11_port_87 : decode b11_port 87 = .ok (.invokestatic 163, 3) := by decide +kernel
theorem d11_port_90 : decode b11_port 90 = .ok (.goto 13, 3) := by decide +kernel
theorem d11_port_93 : decode b11_port 93 = .ok (.aload_n 0, 1) := by decide +kernel
theorem d11_port_94 : decode b11_port 94 = .ok (.getfield 26, 3) := by decide +kernel
theorem d11_port_97 : decode b11_port 97 = .ok (.getfield 166, 3) := by decide +kernel
theorem d11_port_100 : decode b11_port 100 = .ok (.iload 4, 2) := by decide +kernel
theorem d11_port_102 : decode b11_port 102 = .ok (.iaload, 1) := by decide +kernel
theorem d11_port_103 : decode b11_port 103 = .ok (.ireturn, 1) := by decide +kernel
theorem fl_11_151 : Cond.fieldLink cn_11 151 (ft_5 9).1 (ft_5 9).2.1 (ft_5 9).2.2.1 ∈ ce_cm := ce_cm_of (List.mem_of_getElem? (i := 234) (by decide +kernel)) (by decide +kernel)
theorem gf_11_151 (C : ce_Cx p s m args c meth cc nL ret cn_11 D ad cA B0 (ce_St aK aV B0)) (hH : ce_H D ad cA B0 X s h H locs) {k : Nat} (hk : ce_isNet k) (hdg : decode cc pc = .ok (.getfield 151, 3)) (kk : W p l e0 R s m args below meth c H locs cells slots Q (F0 m (pc + 3) ls (.ref (ad (k + 5)) :: rest))) : W p l e0 R s m args below meth c H locs cells slots Q (F0 m pc ls (.ref (ad k) :: rest)) := by
  rcases hk with rfl | rfl
  · exact ce_get C hH (k := 7) (ci := 5) (j := 9) (N := 11) (sj := some (some 12)) (by decide) rfl rfl fw_5 (by decide) fl_11_151 rfl hdg kk
  · exact ce_get C hH (k := 14) (ci := 5) (j := 9) (N := 11) (sj := some (some 19)) (by decide) rfl rfl fw_5 (by decide) fl_11_151 rfl hdg kk
theorem fl_11_166 : Cond.fieldLink cn_11 166 (ft_5 10).1 (ft_5 10).2.1 (ft_5 10).2.2.1 ∈ ce_cm := ce_cm_of (List.mem_of_getElem? (i := 239) (by decide +kernel)) (by decide +kernel)
theorem gf_11_166 (C : ce_Cx p s m args c meth cc nL ret cn_11 D ad cA B0 (ce_St aK aV B0)) (hH : ce_H D ad cA B0 X s h H locs) {k : Nat} (hk : ce_isNet k) (hdg : decode cc pc = .ok (.getfield 166, 3)) (kk : W p l e0 R s m args below meth c H locs cells slots Q (F0 m (pc + 3) ls (.ref (ad (k + 6)) :: rest))) : W p l e0 R s m args below meth c H locs cells slots Q (F0 m pc ls (.ref (ad k) :: rest)) := by
  rcases hk with rfl | rfl
  · exact ce_get C hH (k := 7) (ci := 5) (j := 10) (N := 11) (sj := some (some 13)) (by decide) rfl rfl fw_5 (by decide) fl_11_166 rfl hdg kk
  · exact ce_get C hH (k := 14) (ci := 5) (j := 10) (N := 11) (sj := some (some 20)) (by decide) rfl rfl fw_5 (by decide) fl_11_166 rfl hdg kk
theorem mc11_portOf : Cond.code y11_portOf b11_portOf 1 (some .int) ∈ ce_cm := ce_cm_of (List.mem_of_getElem? (i := 810) (by decide +kernel)) (by decide +kernel)
theorem ml_11_163 : Cond.methodLink cn_11 163 y11_portOf ∈ ce_cm := ce_cm_of (List.mem_of_getElem? (i := 808) (by decide +kernel)) (by decide +kernel)
theorem mt11_portOf : Cond.static y11_portOf ∈ ce_cm := ce_cm_of (List.mem_of_getElem? (i := 809) (by decide +kernel)) (by decide +kernel)
theorem ml_11_159 : Cond.methodLink cn_11 159 y11_nodeOf ∈ ce_cm := ce_cm_of (List.mem_of_getElem? (i := 807) (by decide +kernel)) (by decide +kernel)
theorem ml_11_155 : Cond.methodLink cn_11 155 y3_roleOf ∈ ce_cm := ce_cm_of (List.mem_of_getElem? (i := 806) (by decide +kernel)) (by decide +kernel)
theorem ml_11_147 : Cond.methodLink cn_11 147 y11_endOf ∈ ce_cm := ce_cm_of (List.mem_of_getElem? (i := 805) (by decide +kernel)) (by decide +kernel)
theorem ml_11_143 : Cond.methodLink cn_11 143 y5_hasPort ∈ ce_cm := ce_cm_of (List.mem_of_getElem? (i := 804) (by decide +kernel)) (by decide +kernel)
def f11_port (F : Nat) (x1 : Int32) (x2 : Int32) (x3 : Int32) (h : Hp) : Option (Int32 × Hp) :=
  ce_nm ((h 0 2).toNatClampNeg) (fun k_1 => if ce_isNet k_1 then
    Option.bind (f5_hasPort F k_1 x1 x2 h) (fun o6 =>
      if o6.1 = 0 then
        some ((-2 : Int32), o6.2)
      else
        if x3 < 0 then
          some ((-2 : Int32), o6.2)
        else
          if x3 ≤ (3 : Int32) then
            Option.bind (f11_endOf F x1 x2 o6.2) (fun o26 =>
              ce_nm ((o26.2 0 2).toNatClampNeg) (fun k_32 => if ce_isNet k_32 then
                if ce_in o26.1 40 = true then
                  if x3 = 0 then
                    ce_nm ((o26.2 0 2).toNatClampNeg) (fun k_52 => if ce_isNet k_52 then
                      Option.bind (f3_roleOf F 48 k_52 o26.1 o26.2) (fun o57 =>
                        some (o57.1, o57.2))
                    else none)
                  else
                    if (o26.2 (k_32 + 5) (o26.1).toNatClampNeg) = (-1 : Int32) then
                      some ((-1 : Int32), o26.2)
                    else
                      if x3 = (1 : Int32) then
                        Option.bind (f11_nodeOf F (o26.2 (k_32 + 5) (o26.1).toNatClampNeg) o26.2) (fun o76 =>
                          some (o76.1, o76.2))
                      else
                        if x3 = (2 : Int32) then
                          Option.bind (f11_portOf F (o26.2 (k_32 + 5) (o26.1).toNatClampNeg) o26.2) (fun o87 =>
                            some (o87.1, o87.2))
                        else
                          ce_nm ((o26.2 0 2).toNatClampNeg) (fun k_94 => if ce_isNet k_94 then
                            if ce_in o26.1 40 = true then
                              some (o26.2 (k_94 + 6) (o26.1).toNatClampNeg, o26.2)
                            else none
                          else none)
                else none
              else none))
          else
            some ((-2 : Int32), o6.2))
  else none)
set_option maxRecDepth 20000 in
theorem c11_port (l : Launch) (D : va_G) (ad : Nat → Nat) (cA : Nat → ClassId) (aK aV : Nat → Nat) (B0 : Nat) (hA : ce_Ad ad B0) (F : Nat) (x1 : Int32) (x2 : Int32) (x3 : Int32)  (h : Hp) (r : Int32 × Hp) (e : f11_port F x1 x2 x3 h = some r) : ce_Ct l D ad cA B0 (ce_St aK aV B0) y11_port b11_port 6 (some .int) 2 44 0 0 [.ref (ad 0), .int x1, .int x2, .int x3] h (some (.int r.1)) r.2 := by
  refine ce_enter hA (by decide) rfl (Nat.le_of_ble_eq_true rfl) (fun p e0 s m below meth c ls C hH hl => ?_)
  have hl : lv_has ls 6 [(0, .ref (ad 0)), (1, .int x1), (2, .int x2), (3, .int x3)] := hl
  have hx := C.1
  have hb := C.2.1
  have e : Option.bind _ some = some r := (congrArg (fun z => Option.bind z some) e).trans rfl
  unfold f11_port at e
  refine lv_aload_n hx hb d11_port_0 rfl (lv_at hl 0 rfl) ?_
  refine gf_11_26 C hH d11_port_1 ?_
  obtain ⟨k_1, ek_1, e⟩ := ce_nmE e
  obtain ⟨hk_1, e⟩ := ce_gd e
  rw [← ek_1]
  refine lv_iload_n hx hb d11_port_4 rfl (lv_at hl 1 rfl) ?_
  refine lv_iload_n hx hb d11_port_5 rfl (lv_at hl 2 rfl) ?_
  obtain ⟨o6, eo6, e⟩ := ce_bd e
  refine ce_callV (As := [.int x1, .int x2]) (rest := []) C (ce_sok aK aV B0) hH (c5_hasPort l D ad cA aK aV B0 C.2.2.2.2.2.2.1 F k_1 x1 x2 hk_1 h o6 eo6) (lk_Net hk_1).1 (lk_Net hk_1).2.choose_spec rfl rfl mc5_hasPort ml_11_143 mi5_hasPort ms5_hasPort mI_5 (n := 2) (by decide) rfl ⟨Nat.le_of_ble_eq_true rfl, Nat.le_of_ble_eq_true rfl⟩ ⟨Nat.le_of_ble_eq_true rfl, Nat.le_of_ble_eq_true rfl⟩ hl.1 rfl (Nat.le_of_ble_eq_true rfl) d11_port_6 (fun H locs hH => ?_)
  refine W.eq (g2 := F0 m 9 ls [.int o6.1]) rfl ?_
  refine lv_if_eq (tgt := 21) hx hb d11_port_9 (by decide) (fun hc9 => ?_) (fun hc9 => ?_)
  · have e := ce_if1 e hc9
    refine lv_bipush (v := (-2 : Int32)) hx hb d11_port_21 (by decide) ?_
    exact ce_iretE C (ce_sok aK aV B0) hH e d11_port_23
  · have e := ce_if0 e hc9
    refine lv_iload_n hx hb d11_port_12 rfl (lv_at hl 3 rfl) ?_
    refine lv_if_lt (tgt := 21) hx hb d11_port_13 (by decide) (fun hc13 => ?_) (fun hc13 => ?_)
    · have e := ce_if1 e hc13
      refine lv_bipush (v := (-2 : Int32)) hx hb d11_port_21 (by decide) ?_
      exact ce_iretE C (ce_sok aK aV B0) hH e d11_port_23
    · have e := ce_if0 e hc13
      refine lv_iload_n hx hb d11_port_16 rfl (lv_at hl 3 rfl) ?_
      refine lv_iconst (v := (3 : Int32)) hx hb d11_port_17 (by decide) ?_
      refine lv_icmp_le (tgt := 24) hx hb d11_port_18 (by decide) (fun hc18 => ?_) (fun hc18 => ?_)
      · have e := ce_if1 e hc18
        refine lv_iload_n hx hb d11_port_24 rfl (lv_at hl 1 rfl) ?_
        refine lv_iload_n hx hb d11_port_25 rfl (lv_at hl 2 rfl) ?_
        obtain ⟨o26, eo26, e⟩ := ce_bd e
        refine ce_callS (As := [.int x1, .int x2]) (rest := []) C (ce_sok aK aV B0) hH (c11_endOf l D ad cA aK aV B0 C.2.2.2.2.2.2.1 F x1 x2  o6.2 o26 eo26) mc11_endOf ml_11_147 mt11_endOf mI_11 (n := 2) (by decide) rfl ⟨Nat.le_of_ble_eq_true rfl, Nat.le_of_ble_eq_true rfl⟩ ⟨Nat.le_of_ble_eq_true rfl, Nat.le_of_ble_eq_true rfl⟩ hl.1 rfl (Nat.le_of_ble_eq_true rfl) d11_port_26 (fun H locs hH => ?_)
        refine W.eq (g2 := F0 m 29 ls [.int o26.1]) rfl ?_
        refine lv_istore (lv' := [(4, .int o26.1), (0, .ref (ad 0)), (1, .int x1), (2, .int x2), (3, .int x3)]) hx hb d11_port_29 hl (by decide) rfl (fun ls hl => ?_)
        refine lv_aload_n hx hb d11_port_31 rfl (lv_at hl 1 rfl) ?_
        refine gf_11_26 C hH d11_port_32 ?_
        obtain ⟨k_32, ek_32, e⟩ := ce_nmE e
        obtain ⟨hk_32, e⟩ := ce_gd e
        rw [← ek_32]
        refine gf_11_151 C hH hk_32 d11_port_35 ?_
        refine lv_iload hx hb d11_port_38 (lv_at hl 0 rfl) ?_
        obtain ⟨hi40, e⟩ := ce_gd e
        refine ce_iald C hH (la_Net_5 hk_32).1 (la_Net_5 hk_32).2 (ce_in_vp hi40) d11_port_40 ?_
        refine lv_istore (lv' := [(5, .int (o26.2 (k_32 + 5) (o26.1).toNatClampNeg)), (4, .int o26.1), (0, .ref (ad 0)), (1, .int x1), (2, .int x2), (3, .int x3)]) hx hb d11_port_41 hl (by decide) rfl (fun ls hl => ?_)
        refine lv_iload_n hx hb d11_port_43 rfl (lv_at hl 5 rfl) ?_
        refine lv_if_ne (tgt := 61) hx hb d11_port_44 (by decide) (fun hc44 => ?_) (fun hc44 => ?_)
        · have e := ce_if0 e hc44
          refine lv_iload hx hb d11_port_61 (lv_at hl 0 rfl) ?_
          refine lv_iconst (v := (-1 : Int32)) hx hb d11_port_63 (by decide) ?_
          refine lv_icmp_ne (tgt := 69) hx hb d11_port_64 (by decide) (fun hc64 => ?_) (fun hc64 => ?_)
          · have e := ce_if0 e hc64
            refine lv_iload_n hx hb d11_port_69 rfl (lv_at hl 5 rfl) ?_
            refine lv_iconst (v := (1 : Int32)) hx hb d11_port_70 (by decide) ?_
            refine lv_icmp_ne (tgt := 80) hx hb d11_port_71 (by decide) (fun hc71 => ?_) (fun hc71 => ?_)
            · have e := ce_if0 e hc71
              refine lv_iload_n hx hb d11_port_80 rfl (lv_at hl 5 rfl) ?_
              refine lv_iconst (v := (2 : Int32)) hx hb d11_port_81 (by decide) ?_
              refine lv_icmp_ne (tgt := 93) hx hb d11_port_82 (by decide) (fun hc82 => ?_) (fun hc82 => ?_)
              · have e := ce_if0 e hc82
                refine lv_aload_n hx hb d11_port_93 rfl (lv_at hl 2 rfl) ?_
                refine gf_11_26 C hH d11_port_94 ?_
                obtain ⟨k_94, ek_94, e⟩ := ce_nmE e
                obtain ⟨hk_94, e⟩ := ce_gd e
                rw [← ek_94]
                refine gf_11_166 C hH hk_94 d11_port_97 ?_
                refine lv_iload hx hb d11_port_100 (lv_at hl 1 rfl) ?_
                obtain ⟨hi102, e⟩ := ce_gd e
                refine ce_iald C hH (la_Net_6 hk_94).1 (la_Net_6 hk_94).2 (ce_in_vp hi102) d11_port_102 ?_
                exact ce_iretE C (ce_sok aK aV B0) hH e d11_port_103
              · have e := ce_if1 e hc82
                refine lv_iload hx hb d11_port_85 (lv_at hl 0 rfl) ?_
                obtain ⟨o87, eo87, e⟩ := ce_bd e
                refine ce_callS (As := [.int (o26.2 (k_32 + 5) (o26.1).toNatClampNeg)]) (rest := []) C (ce_sok aK aV B0) hH (c11_portOf l D ad cA aK aV B0 C.2.2.2.2.2.2.1 F (o26.2 (k_32 + 5) (o26.1).toNatClampNeg)  o26.2 o87 eo87) mc11_portOf ml_11_163 mt11_portOf mI_11 (n := 1) (by decide) rfl ⟨Nat.le_of_ble_eq_true rfl, Nat.le_of_ble_eq_true rfl⟩ ⟨Nat.le_of_ble_eq_true rfl, Nat.le_of_ble_eq_true rfl⟩ hl.1 rfl (Nat.le_of_ble_eq_true rfl) d11_port_87 (fun H locs hH => ?_)
                refine W.eq (g2 := F0 m 90 ls [.int o87.1]) rfl ?_
                refine lv_goto (tgt := 103) hx hb d11_port_90 (by decide) ?_
                exact ce_iretE C (ce_sok aK aV B0) hH e d11_port_103
            · have e := ce_if1 e hc71
              refine lv_iload hx hb d11_port_74 (lv_at hl 0 rfl) ?_
              obtain ⟨o76, eo76, e⟩ := ce_bd e
              refine ce_callS (As := [.int (o26.2 (k_32 + 5) (o26.1).toNatClampNeg)]) (rest := []) C (ce_sok aK aV B0) hH (c11_nodeOf l D ad cA aK aV B0 C.2.2.2.2.2.2.1 F (o26.2 (k_32 + 5) (o26.1).toNatClampNeg)  o26.2 o76 eo76) mc11_nodeOf ml_11_159 mt11_nodeOf mI_11 (n := 1) (by decide) rfl ⟨Nat.le_of_ble_eq_true rfl, Nat.le_of_ble_eq_true rfl⟩ ⟨Nat.le_of_ble_eq_true rfl, Nat.le_of_ble_eq_true rfl⟩ hl.1 rfl (Nat.le_of_ble_eq_true rfl) d11_port_76 (fun H locs hH => ?_)
              refine W.eq (g2 := F0 m 79 ls [.int o76.1]) rfl ?_
              exact ce_iretE C (ce_sok aK aV B0) hH e d11_port_79
          · have e := ce_if1 e hc64
            refine lv_iconst (v := (-1 : Int32)) hx hb d11_port_67 (by decide) ?_
            exact ce_iretE C (ce_sok aK aV B0) hH e d11_port_68
        · have e := ce_if1 e hc44
          refine lv_aload_n hx hb d11_port_47 rfl (lv_at hl 2 rfl) ?_
          refine gf_11_67 C hH d11_port_48 ?_
          refine lv_aload_n hx hb d11_port_51 rfl (lv_at hl 2 rfl) ?_
          refine gf_11_26 C hH d11_port_52 ?_
          obtain ⟨k_52, ek_52, e⟩ := ce_nmE e
          obtain ⟨hk_52, e⟩ := ce_gd e
          rw [← ek_52]
          refine lv_iload hx hb d11_port_55 (lv_at hl 1 rfl) ?_
          obtain ⟨o57, eo57, e⟩ := ce_bd e
          refine ce_callV (As := [.ref (ad k_52), .int o26.1]) (rest := []) C (ce_sok aK aV B0) hH (c3_roleOf l D ad cA aK aV B0 C.2.2.2.2.2.2.1 F 48 k_52 o26.1 (Or.inl rfl) hk_52 o26.2 o57 eo57) (lk_El (Or.inl rfl)).1 (lk_El (Or.inl rfl)).2.choose_spec rfl rfl mc3_roleOf ml_11_155 mi3_roleOf ms3_roleOf mI_3 (n := 2) (by decide) rfl ⟨Nat.le_of_ble_eq_true rfl, Nat.le_of_ble_eq_true rfl⟩ ⟨Nat.le_of_ble_eq_true rfl, Nat.le_of_ble_eq_true rfl⟩ hl.1 rfl (Nat.le_of_ble_eq_true rfl) d11_port_57 (fun H locs hH => ?_)
          refine W.eq (g2 := F0 m 60 ls [.int o57.1]) rfl ?_
          exact ce_iretE C (ce_sok aK aV B0) hH e d11_port_60
      · have e := ce_if0 e hc18
        refine lv_bipush (v := (-2 : Int32)) hx hb d11_port_21 (by decide) ?_
        exact ce_iretE C (ce_sok aK aV B0) hH e d11_port_23
abbrev b11_refusalOf : ByteArray := prog_1_method_42_code
def y11_refusalOf : MethodName := ⟨cn_11, "refusalOf", "(I)I"⟩
theorem d11_refusalOf_0 : decode b11_refusalOf 0 = .ok (.aload_n 0, 1) := by decide +kernel
theorem d11_refusalOf_1 : decode b11_refusalOf 1 = .ok (.getfield 26, 3) := by decide +kernel
theorem d11_refusalOf_4 : decode b11_refusalOf 4 = .ok (.iload_n 1, 1) := by decide +kernel
theorem d11_refusalOf_5 : decode b11_refusalOf 5 = .ok (.invokevirtual 179, 3) := by decide +kernel
theorem d11_refusalOf_8 : decode b11_refusalOf 8 = .ok (.ifCond .ne 6, 3) := by decide +kernel
theorem d11_refusalOf_11 : decode b11_refusalOf 11 = .ok (.bipush (-2), 2) := by decide +kernel
theorem d11_refusalOf_13 : decode b11_refusalOf 13 = .ok (.ireturn, 1) := by decide +kernel
theorem d11_refusalOf_14 : decode b11_refusalOf 14 = .ok (.aload_n 0, 1) := by decide +kernel
theorem d11_refusalOf_15 : decode b11_refusalOf 15 = .ok (.getfield 60, 3) := by decide +kernel
theorem d11_refusalOf_18 : decode b11_refusalOf 18 = .ok (.iload_n 1, 1) := by decide +kernel
theorem d11_refusalOf_19 : decode b11_refusalOf 19 = .ok (.invokevirtual 331, 3) := by decide +kernel
theorem d11_refusalOf_22 : decode b11_refusalOf 22 = .ok (.ifCond .eq 7, 3) := by decide +kernel
theorem d11_refusalOf_25 : decode b11_refusalOf 25 = .ok (.iconst (-1), 1) := by decide +kernel
theorem d11_refusalOf_26 : decode b11_refusalOf 26 = .ok (.goto 4, 3) := by decide +kernel
theorem d11_refusalOf_29 : decode b11_refusalOf 29 = .ok (.iconst 0, 1) := by decide +kernel
theorem d11_refusalOf_30 : decode b11_refusalOf 30 = .ok (.ireturn, 1) := by decide +kernel
theorem mc2_hasLoop : Cond.code y2_hasLoop b2_hasLoop 2 (some .boolean) ∈ ce_cm := ce_cm_of (List.mem_of_getElem? (i := 823) (by decide +kernel)) (by decide +kernel)
theorem ml_11_331 : Cond.methodLink cn_11 331 y2_hasLoop ∈ ce_cm := ce_cm_of (List.mem_of_getElem? (i := 820) (by decide +kernel)) (by decide +kernel)
theorem mi2_hasLoop : Cond.instanceMethod y2_hasLoop ∈ ce_cm := ce_cm_of (List.mem_of_getElem? (i := 821) (by decide +kernel)) (by decide +kernel)
theorem ms2_hasLoop : Cond.selects cn_2 y2_hasLoop y2_hasLoop ∈ ce_cm := ce_cm_of (List.mem_of_getElem? (i := 822) (by decide +kernel)) (by decide +kernel)
theorem ml_11_179 : Cond.methodLink cn_11 179 y5_hasNode ∈ ce_cm := ce_cm_of (List.mem_of_getElem? (i := 819) (by decide +kernel)) (by decide +kernel)
def f11_refusalOf (F : Nat) (x1 : Int32) (h : Hp) : Option (Int32 × Hp) :=
  ce_nm ((h 0 2).toNatClampNeg) (fun k_1 => if ce_isNet k_1 then
    Option.bind (f5_hasNode F k_1 x1 h) (fun o5 =>
      if o5.1 = 0 then
        some ((-2 : Int32), o5.2)
      else
        Option.bind (f2_hasLoop F x1 o5.2) (fun o19 =>
          if o19.1 = 0 then
            some ((0 : Int32), o19.2)
          else
            some ((-1 : Int32), o19.2)))
  else none)
set_option maxRecDepth 20000 in
theorem c11_refusalOf (l : Launch) (D : va_G) (ad : Nat → Nat) (cA : Nat → ClassId) (aK aV : Nat → Nat) (B0 : Nat) (hA : ce_Ad ad B0) (F : Nat) (x1 : Int32)  (h : Hp) (r : Int32 × Hp) (e : f11_refusalOf F x1 h = some r) : ce_Ct l D ad cA B0 (ce_St aK aV B0) y11_refusalOf b11_refusalOf 2 (some .int) 3 63 0 0 [.ref (ad 0), .int x1] h (some (.int r.1)) r.2 := by
  refine ce_enter hA (by decide) rfl (Nat.le_of_ble_eq_true rfl) (fun p e0 s m below meth c ls C hH hl => ?_)
  have hl : lv_has ls 2 [(0, .ref (ad 0)), (1, .int x1)] := hl
  have hx := C.1
  have hb := C.2.1
  have e : Option.bind _ some = some r := (congrArg (fun z => Option.bind z some) e).trans rfl
  unfold f11_refusalOf at e
  refine lv_aload_n hx hb d11_refusalOf_0 rfl (lv_at hl 0 rfl) ?_
  refine gf_11_26 C hH d11_refusalOf_1 ?_
  obtain ⟨k_1, ek_1, e⟩ := ce_nmE e
  obtain ⟨hk_1, e⟩ := ce_gd e
  rw [← ek_1]
  refine lv_iload_n hx hb d11_refusalOf_4 rfl (lv_at hl 1 rfl) ?_
  obtain ⟨o5, eo5, e⟩ := ce_bd e
  refine ce_callV (As := [.int x1]) (rest := []) C (ce_sok aK aV B0) hH (c5_hasNode l D ad cA aK aV B0 C.2.2.2.2.2.2.1 F k_1 x1 hk_1 h o5 eo5) (lk_Net hk_1).1 (lk_Net hk_1).2.choose_spec rfl rfl mc5_hasNode ml_11_179 mi5_hasNode ms5_hasNode mI_5 (n := 1) (by decide) rfl ⟨Nat.le_of_ble_eq_true rfl, Nat.le_of_ble_eq_true rfl⟩ ⟨Nat.le_of_ble_eq_true rfl, Nat.le_of_ble_eq_true rfl⟩ hl.1 rfl (Nat.le_of_ble_eq_true rfl) d11_refusalOf_5 (fun H locs hH => ?_)
  refine W.eq (g2 := F0 m 8 ls [.int o5.1]) rfl ?_
  refine lv_if_ne (tgt := 14) hx hb d11_refusalOf_8 (by decide) (fun hc8 => ?_) (fun hc8 => ?_)
  · have e := ce_if0 e hc8
    refine lv_aload_n hx hb d11_refusalOf_14 rfl (lv_at hl 0 rfl) ?_
    refine gf_11_60 C hH d11_refusalOf_15 ?_
    refine lv_iload_n hx hb d11_refusalOf_18 rfl (lv_at hl 1 rfl) ?_
    obtain ⟨o19, eo19, e⟩ := ce_bd e
    refine ce_callV (As := [.int x1]) (rest := []) C (ce_sok aK aV B0) hH (c2_hasLoop l D ad cA aK aV B0 C.2.2.2.2.2.2.1 F x1  o5.2 o19 eo19) lo_44.1 lo_44.2.choose_spec rfl rfl mc2_hasLoop ml_11_331 mi2_hasLoop ms2_hasLoop mI_2 (n := 1) (by decide) rfl ⟨Nat.le_of_ble_eq_true rfl, Nat.le_of_ble_eq_true rfl⟩ ⟨Nat.le_of_ble_eq_true rfl, Nat.le_of_ble_eq_true rfl⟩ hl.1 rfl (Nat.le_of_ble_eq_true rfl) d11_refusalOf_19 (fun H locs hH => ?_)
    refine W.eq (g2 := F0 m 22 ls [.int o19.1]) rfl ?_
    refine lv_if_eq (tgt := 29) hx hb d11_refusalOf_22 (by decide) (fun hc22 => ?_) (fun hc22 => ?_)
    · have e := ce_if1 e hc22
      refine lv_iconst (v := (0 : Int32)) hx hb d11_refusalOf_29 (by decide) ?_
      exact ce_iretE C (ce_sok aK aV B0) hH e d11_refusalOf_30
    · have e := ce_if0 e hc22
      refine lv_iconst (v := (-1 : Int32)) hx hb d11_refusalOf_25 (by decide) ?_
      refine lv_goto (tgt := 30) hx hb d11_refusalOf_26 (by decide) ?_
      exact ce_iretE C (ce_sok aK aV B0) hH e d11_refusalOf_30
  · have e := ce_if1 e hc8
    refine lv_bipush (v := (-2 : Int32)) hx hb d11_refusalOf_11 (by decide) ?_
    exact ce_iretE C (ce_sok aK aV B0) hH e d11_refusalOf_13
abbrev b11_root : ByteArray := prog_1_method_8_code
def y11_root : MethodName := ⟨cn_11, "root", "(I)I"⟩
theorem d11_root_0 : decode b11_root 0 = .ok (.aload_n 0, 1) := by decide +kernel
theorem d11_root_1 : decode b11_root 1 = .ok (.iload_n 1, 1) := by decide +kernel
theorem d11_root_2 : decode b11_root 2 = .ok (.invokevirtual 169, 3) := by decide +kernel
theorem d11_root_5 : decode b11_root 5 = .ok (.istore_n 2, 1) := by decide +kernel
theorem d11_root_6 : decode b11_root 6 = .ok (.iload_n 2, 1) := by decide +kernel
theorem d11_root_7 : decode b11_root 7 = .ok (.ifCond .eq 7, 3) := by decide +kernel
theorem d11_root_10 : decode b11_root 10 = .ok (.iload_n 2, 1) := by decide +kernel
theorem d11_root_11 : decode b11_root 11 = .ok (.goto 15, 3) := by decide +kernel
theorem d11_root_14 : decode b11_root 14 = .ok (.aload_n 0, 1) := by decide +kernel
theorem d11_root_15 : decode b11_root 15 = .ok (.getfield 67, 3) := by decide +kernel
theorem d11_root_18 : decode b11_root 18 = .ok (.aload_n 0, 1) := by decide +kernel
theorem d11_root_19 : decode b11_root 19 = .ok (.getfield 60, 3) := by decide +kernel
theorem d11_root_22 : decode b11_root 22 = .ok (.iload_n 1, 1) := by decide +kernel
theorem d11_root_23 : decode b11_root 23 = .ok (.invokevirtual 172, 3) := by decide +kernel
theorem d11_root_26 : decode b11_root 26 = .ok (.ireturn, 1) := by decide +kernel
theorem mc3_rootIn : Cond.code y3_rootIn b3_rootIn 4 (some .int) ∈ ce_cm := ce_cm_of (List.mem_of_getElem? (i := 836) (by decide +kernel)) (by decide +kernel)
theorem ml_11_172 : Cond.methodLink cn_11 172 y3_rootIn ∈ ce_cm := ce_cm_of (List.mem_of_getElem? (i := 833) (by decide +kernel)) (by decide +kernel)
theorem mi3_rootIn : Cond.instanceMethod y3_rootIn ∈ ce_cm := ce_cm_of (List.mem_of_getElem? (i := 834) (by decide +kernel)) (by decide +kernel)
theorem ms3_rootIn : Cond.selects cn_3 y3_rootIn y3_rootIn ∈ ce_cm := ce_cm_of (List.mem_of_getElem? (i := 835) (by decide +kernel)) (by decide +kernel)
theorem mc11_refusalOf : Cond.code y11_refusalOf b11_refusalOf 2 (some .int) ∈ ce_cm := ce_cm_of (List.mem_of_getElem? (i := 818) (by decide +kernel)) (by decide +kernel)
theorem ml_11_169 : Cond.methodLink cn_11 169 y11_refusalOf ∈ ce_cm := ce_cm_of (List.mem_of_getElem? (i := 815) (by decide +kernel)) (by decide +kernel)
theorem mi11_refusalOf : Cond.instanceMethod y11_refusalOf ∈ ce_cm := ce_cm_of (List.mem_of_getElem? (i := 817) (by decide +kernel)) (by decide +kernel)
theorem ms11_refusalOf : Cond.selects cn_11 y11_refusalOf y11_refusalOf ∈ ce_cm := ce_cm_of (List.mem_of_getElem? (i := 20) (by decide +kernel)) (by decide +kernel)
def f11_root (F : Nat) (x1 : Int32) (h : Hp) : Option (Int32 × Hp) :=
  Option.bind (f11_refusalOf F x1 h) (fun o2 =>
    if o2.1 = 0 then
      Option.bind (f3_rootIn F 48 x1 o2.2) (fun o23 =>
        some (o23.1, o23.2))
    else
      some (o2.1, o2.2))
set_option maxRecDepth 20000 in
theorem c11_root (l : Launch) (D : va_G) (ad : Nat → Nat) (cA : Nat → ClassId) (aK aV : Nat → Nat) (B0 : Nat) (hA : ce_Ad ad B0) (F : Nat) (x1 : Int32)  (h : Hp) (r : Int32 × Hp) (e : f11_root F x1 h = some r) : ce_Ct l D ad cA B0 (ce_St aK aV B0) y11_root b11_root 3 (some .int) 4 84 0 0 [.ref (ad 0), .int x1] h (some (.int r.1)) r.2 := by
  refine ce_enter hA (by decide) rfl (Nat.le_of_ble_eq_true rfl) (fun p e0 s m below meth c ls C hH hl => ?_)
  have hl : lv_has ls 3 [(0, .ref (ad 0)), (1, .int x1)] := hl
  have hx := C.1
  have hb := C.2.1
  have e : Option.bind _ some = some r := (congrArg (fun z => Option.bind z some) e).trans rfl
  unfold f11_root at e
  refine lv_aload_n hx hb d11_root_0 rfl (lv_at hl 0 rfl) ?_
  refine lv_iload_n hx hb d11_root_1 rfl (lv_at hl 1 rfl) ?_
  obtain ⟨o2, eo2, e⟩ := ce_bd e
  refine ce_callV (As := [.int x1]) (rest := []) C (ce_sok aK aV B0) hH (c11_refusalOf l D ad cA aK aV B0 C.2.2.2.2.2.2.1 F x1  h o2 eo2) lo_0.1 lo_0.2.choose_spec rfl rfl mc11_refusalOf ml_11_169 mi11_refusalOf ms11_refusalOf mI_11 (n := 1) (by decide) rfl ⟨Nat.le_of_ble_eq_true rfl, Nat.le_of_ble_eq_true rfl⟩ ⟨Nat.le_of_ble_eq_true rfl, Nat.le_of_ble_eq_true rfl⟩ hl.1 rfl (Nat.le_of_ble_eq_true rfl) d11_root_2 (fun H locs hH => ?_)
  refine W.eq (g2 := F0 m 5 ls [.int o2.1]) rfl ?_
  refine lv_istore_n (lv' := [(2, .int o2.1), (0, .ref (ad 0)), (1, .int x1)]) hx hb d11_root_5 rfl hl (by decide) rfl (fun ls hl => ?_)
  refine lv_iload_n hx hb d11_root_6 rfl (lv_at hl 0 rfl) ?_
  refine lv_if_eq (tgt := 14) hx hb d11_root_7 (by decide) (fun hc7 => ?_) (fun hc7 => ?_)
  · have e := ce_if1 e hc7
    refine lv_aload_n hx hb d11_root_14 rfl (lv_at hl 1 rfl) ?_
    refine gf_11_67 C hH d11_root_15 ?_
    refine lv_aload_n hx hb d11_root_18 rfl (lv_at hl 1 rfl) ?_
    refine gf_11_60 C hH d11_root_19 ?_
    refine lv_iload_n hx hb d11_root_22 rfl (lv_at hl 2 rfl) ?_
    obtain ⟨o23, eo23, e⟩ := ce_bd e
    refine ce_callV (As := [.ref (ad 44), .int x1]) (rest := []) C (ce_sok aK aV B0) hH (c3_rootIn l D ad cA aK aV B0 C.2.2.2.2.2.2.1 F 48 x1 (Or.inl rfl) o2.2 o23 eo23) (lk_El (Or.inl rfl)).1 (lk_El (Or.inl rfl)).2.choose_spec rfl rfl mc3_rootIn ml_11_172 mi3_rootIn ms3_rootIn mI_3 (n := 2) (by decide) rfl ⟨Nat.le_of_ble_eq_true rfl, Nat.le_of_ble_eq_true rfl⟩ ⟨Nat.le_of_ble_eq_true rfl, Nat.le_of_ble_eq_true rfl⟩ hl.1 rfl (Nat.le_of_ble_eq_true rfl) d11_root_23 (fun H locs hH => ?_)
    refine W.eq (g2 := F0 m 26 ls [.int o23.1]) rfl ?_
    exact ce_iretE C (ce_sok aK aV B0) hH e d11_root_26
  · have e := ce_if0 e hc7
    refine lv_iload_n hx hb d11_root_10 rfl (lv_at hl 0 rfl) ?_
    refine lv_goto (tgt := 26) hx hb d11_root_11 (by decide) ?_
    exact ce_iretE C (ce_sok aK aV B0) hH e d11_root_26
abbrev b11_settled : ByteArray := prog_1_method_9_code
def y11_settled : MethodName := ⟨cn_11, "settled", "(I)I"⟩
theorem d11_settled_0 : decode b11_settled 0 = .ok (.aload_n 0, 1) := by decide +kernel
theorem d11_settled_1 : decode b11_settled 1 = .ok (.iload_n 1, 1) := by decide +kernel
theorem d11_settled_2 : decode b11_settled 2 = .ok (.invokevirtual 169, 3) := by decide +kernel
theorem d11_settled_5 : decode b11_settled 5 = .ok (.istore_n 2, 1) := by decide +kernel
theorem d11_settled_6 : decode b11_settled 6 = .ok (.iload_n 2, 1) := by decide +kernel
theorem d11_settled_7 : decode b11_settled 7 = .ok (.ifCond .eq 5, 3) := by decide +kernel
theorem d11_settled_10 : decode b11_settled 10 = .ok (.iload_n 2, 1) := by decide +kernel
theorem d11_settled_11 : decode b11_settled 11 = .ok (.ireturn, 1) := by decide +kernel
theorem d11_settled_12 : decode b11_settled 12 = .ok (.aload_n 0, 1) := by decide +kernel
theorem d11_settled_13 : decode b11_settled 13 = .ok (.getfield 67, 3) := by decide +kernel
theorem d11_settled_16 : decode b11_settled 16 = .ok (.aload_n 0, 1) := by decide +kernel
theorem d11_settled_17 : decode b11_settled 17 = .ok (.getfield 60, 3) := by decide +kernel
theorem d11_settled_20 : decode b11_settled 20 = .ok (.iload_n 1, 1) := by decide +kernel
theorem d11_settled_21 : decode b11_settled 21 = .ok (.invokevirtual 172, 3) := by decide +kernel
theorem d11_settled_24 : decode b11_settled 24 = .ok (.istore_n 3, 1) := by decide +kernel
theorem d11_settled_25 : decode b11_settled 25 = .ok (.iload_n 3, 1) := by decide +kernel
theorem d11_settled_26 : decode b11_settled 26 = .ok (.iconst (-1), 1) := by decide +kernel
theorem d11_settled_27 : decode b11_settled 27 = .ok (.if_icmp .ne 7, 3) := by decide +kernel
theorem d11_settled_30 : decode b11_settled 30 = .ok (.iconst (-1), 1) := by decide +kernel
theorem d11_settled_31 : decode b11_settled 31 = .ok (.goto 12, 3) := by decide +kernel
theorem d11_settled_34 : decode b11_settled 34 = .ok (.aload_n 0, 1) := by decide +kernel
theorem d11_settled_35 : decode b11_settled 35 = .ok (.getfield 67, 3) := by decide +kernel
theorem d11_settled_38 : decode b11_settled 38 = .ok (.getfield 176, 3) := by decide +kernel
theorem d11_settled_41 : decode b11_settled 41 = .ok (.iload_n 3, 1) := by decide +kernel
theorem d11_settled_42 : decode b11_settled 42 = .ok (.iaload, 1) := by decide +kernel
theorem d11_settled_43 : decode b11_settled 43 = .ok (.ireturn, 1) := by decide +kernel
theorem fl_11_176 : Cond.fieldLink cn_11 176 (ft_3 1).1 (ft_3 1).2.1 (ft_3 1).2.2.1 ∈ ce_cm := ce_cm_of (List.mem_of_getElem? (i := 383) (by decide +kernel)) (by decide +kernel)
theorem gf_11_176 (C : ce_Cx p s m args c meth cc nL ret cn_11 D ad cA B0 (ce_St aK aV B0)) (hH : ce_H D ad cA B0 X s h H locs) {k : Nat} (hk : ce_isEl k) (hdg : decode cc pc = .ok (.getfield 176, 3)) (kk : W p l e0 R s m args below meth c H locs cells slots Q (F0 m (pc + 3) ls (.ref (ad (k + 2)) :: rest))) : W p l e0 R s m args below meth c H locs cells slots Q (F0 m pc ls (.ref (ad k) :: rest)) := by
  rcases hk with rfl | rfl
  · exact ce_get C hH (k := 48) (ci := 3) (j := 1) (N := 6) (sj := some (some 50)) (by decide) rfl rfl fw_3 (by decide) fl_11_176 rfl hdg kk
  · exact ce_get C hH (k := 55) (ci := 3) (j := 1) (N := 6) (sj := some (some 57)) (by decide) rfl rfl fw_3 (by decide) fl_11_176 rfl hdg kk
def f11_settled (F : Nat) (x1 : Int32) (h : Hp) : Option (Int32 × Hp) :=
  Option.bind (f11_refusalOf F x1 h) (fun o2 =>
    if o2.1 = 0 then
      Option.bind (f3_rootIn F 48 x1 o2.2) (fun o21 =>
        if o21.1 = (-1 : Int32) then
          some ((-1 : Int32), o21.2)
        else
          if ce_in o21.1 10 = true then
            some (o21.2 (48 + 2) (o21.1).toNatClampNeg, o21.2)
          else none)
    else
      some (o2.1, o2.2))
set_option maxRecDepth 20000 in
theorem c11_settled (l : Launch) (D : va_G) (ad : Nat → Nat) (cA : Nat → ClassId) (aK aV : Nat → Nat) (B0 : Nat) (hA : ce_Ad ad B0) (F : Nat) (x1 : Int32)  (h : Hp) (r : Int32 × Hp) (e : f11_settled F x1 h = some r) : ce_Ct l D ad cA B0 (ce_St aK aV B0) y11_settled b11_settled 4 (some .int) 4 84 0 0 [.ref (ad 0), .int x1] h (some (.int r.1)) r.2 := by
  refine ce_enter hA (by decide) rfl (Nat.le_of_ble_eq_true rfl) (fun p e0 s m below meth c ls C hH hl => ?_)
  have hl : lv_has ls 4 [(0, .ref (ad 0)), (1, .int x1)] := hl
  have hx := C.1
  have hb := C.2.1
  have e : Option.bind _ some = some r := (congrArg (fun z => Option.bind z some) e).trans rfl
  unfold f11_settled at e
  refine lv_aload_n hx hb d11_settled_0 rfl (lv_at hl 0 rfl) ?_
  refine lv_iload_n hx hb d11_settled_1 rfl (lv_at hl 1 rfl) ?_
  obtain ⟨o2, eo2, e⟩ := ce_bd e
  refine ce_callV (As := [.int x1]) (rest := []) C (ce_sok aK aV B0) hH (c11_refusalOf l D ad cA aK aV B0 C.2.2.2.2.2.2.1 F x1  h o2 eo2) lo_0.1 lo_0.2.choose_spec rfl rfl mc11_refusalOf ml_11_169 mi11_refusalOf ms11_refusalOf mI_11 (n := 1) (by decide) rfl ⟨Nat.le_of_ble_eq_true rfl, Nat.le_of_ble_eq_true rfl⟩ ⟨Nat.le_of_ble_eq_true rfl, Nat.le_of_ble_eq_true rfl⟩ hl.1 rfl (Nat.le_of_ble_eq_true rfl) d11_settled_2 (fun H locs hH => ?_)
  refine W.eq (g2 := F0 m 5 ls [.int o2.1]) rfl ?_
  refine lv_istore_n (lv' := [(2, .int o2.1), (0, .ref (ad 0)), (1, .int x1)]) hx hb d11_settled_5 rfl hl (by decide) rfl (fun ls hl => ?_)
  refine lv_iload_n hx hb d11_settled_6 rfl (lv_at hl 0 rfl) ?_
  refine lv_if_eq (tgt := 12) hx hb d11_settled_7 (by decide) (fun hc7 => ?_) (fun hc7 => ?_)
  · have e := ce_if1 e hc7
    refine lv_aload_n hx hb d11_settled_12 rfl (lv_at hl 1 rfl) ?_
    refine gf_11_67 C hH d11_settled_13 ?_
    refine lv_aload_n hx hb d11_settled_16 rfl (lv_at hl 1 rfl) ?_
    refine gf_11_60 C hH d11_settled_17 ?_
    refine lv_iload_n hx hb d11_settled_20 rfl (lv_at hl 2 rfl) ?_
    obtain ⟨o21, eo21, e⟩ := ce_bd e
    refine ce_callV (As := [.ref (ad 44), .int x1]) (rest := []) C (ce_sok aK aV B0) hH (c3_rootIn l D ad cA aK aV B0 C.2.2.2.2.2.2.1 F 48 x1 (Or.inl rfl) o2.2 o21 eo21) (lk_El (Or.inl rfl)).1 (lk_El (Or.inl rfl)).2.choose_spec rfl rfl mc3_rootIn ml_11_172 mi3_rootIn ms3_rootIn mI_3 (n := 2) (by decide) rfl ⟨Nat.le_of_ble_eq_true rfl, Nat.le_of_ble_eq_true rfl⟩ ⟨Nat.le_of_ble_eq_true rfl, Nat.le_of_ble_eq_true rfl⟩ hl.1 rfl (Nat.le_of_ble_eq_true rfl) d11_settled_21 (fun H locs hH => ?_)
    refine W.eq (g2 := F0 m 24 ls [.int o21.1]) rfl ?_
    refine lv_istore_n (lv' := [(3, .int o21.1), (2, .int o2.1), (0, .ref (ad 0)), (1, .int x1)]) hx hb d11_settled_24 rfl hl (by decide) rfl (fun ls hl => ?_)
    refine lv_iload_n hx hb d11_settled_25 rfl (lv_at hl 0 rfl) ?_
    refine lv_iconst (v := (-1 : Int32)) hx hb d11_settled_26 (by decide) ?_
    refine lv_icmp_ne (tgt := 34) hx hb d11_settled_27 (by decide) (fun hc27 => ?_) (fun hc27 => ?_)
    · have e := ce_if0 e hc27
      refine lv_aload_n hx hb d11_settled_34 rfl (lv_at hl 2 rfl) ?_
      refine gf_11_67 C hH d11_settled_35 ?_
      refine gf_11_176 C hH (Or.inl rfl) d11_settled_38 ?_
      refine lv_iload_n hx hb d11_settled_41 rfl (lv_at hl 0 rfl) ?_
      obtain ⟨hi42, e⟩ := ce_gd e
      refine ce_iald C hH (la_El_2 (Or.inl rfl)).1 (la_El_2 (Or.inl rfl)).2 (ce_in_vp hi42) d11_settled_42 ?_
      exact ce_iretE C (ce_sok aK aV B0) hH e d11_settled_43
    · have e := ce_if1 e hc27
      refine lv_iconst (v := (-1 : Int32)) hx hb d11_settled_30 (by decide) ?_
      refine lv_goto (tgt := 43) hx hb d11_settled_31 (by decide) ?_
      exact ce_iretE C (ce_sok aK aV B0) hH e d11_settled_43
  · have e := ce_if0 e hc7
    refine lv_iload_n hx hb d11_settled_10 rfl (lv_at hl 0 rfl) ?_
    exact ce_iretE C (ce_sok aK aV B0) hH e d11_settled_11
abbrev b11_called : ByteArray := prog_1_method_10_code
def y11_called : MethodName := ⟨cn_11, "called", "(I)I"⟩
theorem d11_called_0 : decode b11_called 0 = .ok (.aload_n 0, 1) := by decide +kernel
theorem d11_called_1 : decode b11_called 1 = .ok (.getfield 26, 3) := by decide +kernel
theorem d11_called_4 : decode b11_called 4 = .ok (.iload_n 1, 1) := by decide +kernel
theorem d11_called_5 : decode b11_called 5 = .ok (.invokevirtual 179, 3) := by decide +kernel
theorem d11_called_8 : decode b11_called 8 = .ok (.ifCond .eq 15, 3) := by decide +kernel
theorem d11_called_11 : decode b11_called 11 = .ok (.aload_n 0, 1) := by decide +kernel
theorem d11_called_12 : decode b11_called 12 = .ok (.getfield 67, 3) := by decide +kernel
theorem d11_called_15 : decode b11_called 15 = .ok (.getfield 183, 3) := by decide +kernel
theorem d11_called_18 : decode b11_called 18 = .ok (.iload_n 1, 1) := by decide +kernel
theorem d11_called_19 : decode b11_called 19 = .ok (.iaload, 1) := by decide +kernel
theorem d11_called_20 : decode b11_called 20 = .ok (.goto 5, 3) := by decide +kernel
theorem d11_called_23 : decode b11_called 23 = .ok (.bipush (-2), 2) := by decide +kernel
theorem d11_called_25 : decode b11_called 25 = .ok (.ireturn, 1) := by decide +kernel
theorem fl_11_183 : Cond.fieldLink cn_11 183 (ft_3 0).1 (ft_3 0).2.1 (ft_3 0).2.2.1 ∈ ce_cm := ce_cm_of (List.mem_of_getElem? (i := 380) (by decide +kernel)) (by decide +kernel)
theorem gf_11_183 (C : ce_Cx p s m args c meth cc nL ret cn_11 D ad cA B0 (ce_St aK aV B0)) (hH : ce_H D ad cA B0 X s h H locs) {k : Nat} (hk : ce_isEl k) (hdg : decode cc pc = .ok (.getfield 183, 3)) (kk : W p l e0 R s m args below meth c H locs cells slots Q (F0 m (pc + 3) ls (.ref (ad (k + 1)) :: rest))) : W p l e0 R s m args below meth c H locs cells slots Q (F0 m pc ls (.ref (ad k) :: rest)) := by
  rcases hk with rfl | rfl
  · exact ce_get C hH (k := 48) (ci := 3) (j := 0) (N := 6) (sj := some (some 49)) (by decide) rfl rfl fw_3 (by decide) fl_11_183 rfl hdg kk
  · exact ce_get C hH (k := 55) (ci := 3) (j := 0) (N := 6) (sj := some (some 56)) (by decide) rfl rfl fw_3 (by decide) fl_11_183 rfl hdg kk
def f11_called (F : Nat) (x1 : Int32) (h : Hp) : Option (Int32 × Hp) :=
  ce_nm ((h 0 2).toNatClampNeg) (fun k_1 => if ce_isNet k_1 then
    Option.bind (f5_hasNode F k_1 x1 h) (fun o5 =>
      if o5.1 = 0 then
        some ((-2 : Int32), o5.2)
      else
        if ce_in x1 10 = true then
          some (o5.2 (48 + 1) (x1).toNatClampNeg, o5.2)
        else none)
  else none)
set_option maxRecDepth 20000 in
theorem c11_called (l : Launch) (D : va_G) (ad : Nat → Nat) (cA : Nat → ClassId) (aK aV : Nat → Nat) (B0 : Nat) (hA : ce_Ad ad B0) (F : Nat) (x1 : Int32)  (h : Hp) (r : Int32 × Hp) (e : f11_called F x1 h = some r) : ce_Ct l D ad cA B0 (ce_St aK aV B0) y11_called b11_called 2 (some .int) 1 21 0 0 [.ref (ad 0), .int x1] h (some (.int r.1)) r.2 := by
  refine ce_enter hA (by decide) rfl (Nat.le_of_ble_eq_true rfl) (fun p e0 s m below meth c ls C hH hl => ?_)
  have hl : lv_has ls 2 [(0, .ref (ad 0)), (1, .int x1)] := hl
  have hx := C.1
  have hb := C.2.1
  have e : Option.bind _ some = some r := (congrArg (fun z => Option.bind z some) e).trans rfl
  unfold f11_called at e
  refine lv_aload_n hx hb d11_called_0 rfl (lv_at hl 0 rfl) ?_
  refine gf_11_26 C hH d11_called_1 ?_
  obtain ⟨k_1, ek_1, e⟩ := ce_nmE e
  obtain ⟨hk_1, e⟩ := ce_gd e
  rw [← ek_1]
  refine lv_iload_n hx hb d11_called_4 rfl (lv_at hl 1 rfl) ?_
  obtain ⟨o5, eo5, e⟩ := ce_bd e
  refine ce_callV (As := [.int x1]) (rest := []) C (ce_sok aK aV B0) hH (c5_hasNode l D ad cA aK aV B0 C.2.2.2.2.2.2.1 F k_1 x1 hk_1 h o5 eo5) (lk_Net hk_1).1 (lk_Net hk_1).2.choose_spec rfl rfl mc5_hasNode ml_11_179 mi5_hasNode ms5_hasNode mI_5 (n := 1) (by decide) rfl ⟨Nat.le_of_ble_eq_true rfl, Nat.le_of_ble_eq_true rfl⟩ ⟨Nat.le_of_ble_eq_true rfl, Nat.le_of_ble_eq_true rfl⟩ hl.1 rfl (Nat.le_of_ble_eq_true rfl) d11_called_5 (fun H locs hH => ?_)
  refine W.eq (g2 := F0 m 8 ls [.int o5.1]) rfl ?_
  refine lv_if_eq (tgt := 23) hx hb d11_called_8 (by decide) (fun hc8 => ?_) (fun hc8 => ?_)
  · have e := ce_if1 e hc8
    refine lv_bipush (v := (-2 : Int32)) hx hb d11_called_23 (by decide) ?_
    exact ce_iretE C (ce_sok aK aV B0) hH e d11_called_25
  · have e := ce_if0 e hc8
    refine lv_aload_n hx hb d11_called_11 rfl (lv_at hl 0 rfl) ?_
    refine gf_11_67 C hH d11_called_12 ?_
    refine gf_11_183 C hH (Or.inl rfl) d11_called_15 ?_
    refine lv_iload_n hx hb d11_called_18 rfl (lv_at hl 1 rfl) ?_
    obtain ⟨hi19, e⟩ := ce_gd e
    refine ce_iald C hH (la_El_1 (Or.inl rfl)).1 (la_El_1 (Or.inl rfl)).2 (ce_in_vp hi19) d11_called_19 ?_
    refine lv_goto (tgt := 25) hx hb d11_called_20 (by decide) ?_
    exact ce_iretE C (ce_sok aK aV B0) hH e d11_called_25
abbrev b11_rounds : ByteArray := prog_1_method_11_code
def y11_rounds : MethodName := ⟨cn_11, "rounds", "(I)I"⟩
theorem d11_rounds_0 : decode b11_rounds 0 = .ok (.aload_n 0, 1) := by decide +kernel
theorem d11_rounds_1 : decode b11_rounds 1 = .ok (.iload_n 1, 1) := by decide +kernel
theorem d11_rounds_2 : decode b11_rounds 2 = .ok (.invokevirtual 169, 3) := by decide +kernel
theorem d11_rounds_5 : decode b11_rounds 5 = .ok (.istore_n 2, 1) := by decide +kernel
theorem d11_rounds_6 : decode b11_rounds 6 = .ok (.iload_n 2, 1) := by decide +kernel
theorem d11_rounds_7 : decode b11_rounds 7 = .ok (.ifCond .eq 7, 3) := by decide +kernel
theorem d11_rounds_10 : decode b11_rounds 10 = .ok (.iload_n 2, 1) := by decide +kernel
theorem d11_rounds_11 : decode b11_rounds 11 = .ok (.goto 15, 3) := by decide +kernel
theorem d11_rounds_14 : decode b11_rounds 14 = .ok (.aload_n 0, 1) := by decide +kernel
theorem d11_rounds_15 : decode b11_rounds 15 = .ok (.getfield 67, 3) := by decide +kernel
theorem d11_rounds_18 : decode b11_rounds 18 = .ok (.aload_n 0, 1) := by decide +kernel
theorem d11_rounds_19 : decode b11_rounds 19 = .ok (.getfield 60, 3) := by decide +kernel
theorem d11_rounds_22 : decode b11_rounds 22 = .ok (.iload_n 1, 1) := by decide +kernel
theorem d11_rounds_23 : decode b11_rounds 23 = .ok (.invokevirtual 186, 3) := by decide +kernel
theorem d11_rounds_26 : decode b11_rounds 26 = .ok (.ireturn, 1) := by decide +kernel
theorem mc3_roundsIn : Cond.code y3_roundsIn b3_roundsIn 5 (some .int) ∈ ce_cm := ce_cm_of (List.mem_of_getElem? (i := 856) (by decide +kernel)) (by decide +kernel)
theorem ml_11_186 : Cond.methodLink cn_11 186 y3_roundsIn ∈ ce_cm := ce_cm_of (List.mem_of_getElem? (i := 853) (by decide +kernel)) (by decide +kernel)
theorem mi3_roundsIn : Cond.instanceMethod y3_roundsIn ∈ ce_cm := ce_cm_of (List.mem_of_getElem? (i := 854) (by decide +kernel)) (by decide +kernel)
theorem ms3_roundsIn : Cond.selects cn_3 y3_roundsIn y3_roundsIn ∈ ce_cm := ce_cm_of (List.mem_of_getElem? (i := 855) (by decide +kernel)) (by decide +kernel)
def f11_rounds (F : Nat) (x1 : Int32) (h : Hp) : Option (Int32 × Hp) :=
  Option.bind (f11_refusalOf F x1 h) (fun o2 =>
    if o2.1 = 0 then
      Option.bind (f3_roundsIn F 48 x1 o2.2) (fun o23 =>
        some (o23.1, o23.2))
    else
      some (o2.1, o2.2))
set_option maxRecDepth 20000 in
theorem c11_rounds (l : Launch) (D : va_G) (ad : Nat → Nat) (cA : Nat → ClassId) (aK aV : Nat → Nat) (B0 : Nat) (hA : ce_Ad ad B0) (F : Nat) (x1 : Int32)  (h : Hp) (r : Int32 × Hp) (e : f11_rounds F x1 h = some r) : ce_Ct l D ad cA B0 (ce_St aK aV B0) y11_rounds b11_rounds 3 (some .int) 4 84 0 0 [.ref (ad 0), .int x1] h (some (.int r.1)) r.2 := by
  refine ce_enter hA (by decide) rfl (Nat.le_of_ble_eq_true rfl) (fun p e0 s m below meth c ls C hH hl => ?_)
  have hl : lv_has ls 3 [(0, .ref (ad 0)), (1, .int x1)] := hl
  have hx := C.1
  have hb := C.2.1
  have e : Option.bind _ some = some r := (congrArg (fun z => Option.bind z some) e).trans rfl
  unfold f11_rounds at e
  refine lv_aload_n hx hb d11_rounds_0 rfl (lv_at hl 0 rfl) ?_
  refine lv_iload_n hx hb d11_rounds_1 rfl (lv_at hl 1 rfl) ?_
  obtain ⟨o2, eo2, e⟩ := ce_bd e
  refine ce_callV (As := [.int x1]) (rest := []) C (ce_sok aK aV B0) hH (c11_refusalOf l D ad cA aK aV B0 C.2.2.2.2.2.2.1 F x1  h o2 eo2) lo_0.1 lo_0.2.choose_spec rfl rfl mc11_refusalOf ml_11_169 mi11_refusalOf ms11_refusalOf mI_11 (n := 1) (by decide) rfl ⟨Nat.le_of_ble_eq_true rfl, Nat.le_of_ble_eq_true rfl⟩ ⟨Nat.le_of_ble_eq_true rfl, Nat.le_of_ble_eq_true rfl⟩ hl.1 rfl (Nat.le_of_ble_eq_true rfl) d11_rounds_2 (fun H locs hH => ?_)
  refine W.eq (g2 := F0 m 5 ls [.int o2.1]) rfl ?_
  refine lv_istore_n (lv' := [(2, .int o2.1), (0, .ref (ad 0)), (1, .int x1)]) hx hb d11_rounds_5 rfl hl (by decide) rfl (fun ls hl => ?_)
  refine lv_iload_n hx hb d11_rounds_6 rfl (lv_at hl 0 rfl) ?_
  refine lv_if_eq (tgt := 14) hx hb d11_rounds_7 (by decide) (fun hc7 => ?_) (fun hc7 => ?_)
  · have e := ce_if1 e hc7
    refine lv_aload_n hx hb d11_rounds_14 rfl (lv_at hl 1 rfl) ?_
    refine gf_11_67 C hH d11_rounds_15 ?_
    refine lv_aload_n hx hb d11_rounds_18 rfl (lv_at hl 1 rfl) ?_
    refine gf_11_60 C hH d11_rounds_19 ?_
    refine lv_iload_n hx hb d11_rounds_22 rfl (lv_at hl 2 rfl) ?_
    obtain ⟨o23, eo23, e⟩ := ce_bd e
    refine ce_callV (As := [.ref (ad 44), .int x1]) (rest := []) C (ce_sok aK aV B0) hH (c3_roundsIn l D ad cA aK aV B0 C.2.2.2.2.2.2.1 F 48 x1 (Or.inl rfl) o2.2 o23 eo23) (lk_El (Or.inl rfl)).1 (lk_El (Or.inl rfl)).2.choose_spec rfl rfl mc3_roundsIn ml_11_186 mi3_roundsIn ms3_roundsIn mI_3 (n := 2) (by decide) rfl ⟨Nat.le_of_ble_eq_true rfl, Nat.le_of_ble_eq_true rfl⟩ ⟨Nat.le_of_ble_eq_true rfl, Nat.le_of_ble_eq_true rfl⟩ hl.1 rfl (Nat.le_of_ble_eq_true rfl) d11_rounds_23 (fun H locs hH => ?_)
    refine W.eq (g2 := F0 m 26 ls [.int o23.1]) rfl ?_
    exact ce_iretE C (ce_sok aK aV B0) hH e d11_rounds_26
  · have e := ce_if0 e hc7
    refine lv_iload_n hx hb d11_rounds_10 rfl (lv_at hl 0 rfl) ?_
    refine lv_goto (tgt := 26) hx hb d11_rounds_11 (by decide) ?_
    exact ce_iretE C (ce_sok aK aV B0) hH e d11_rounds_26
abbrev b11_taken : ByteArray := prog_1_method_12_code
def y11_taken : MethodName := ⟨cn_11, "taken", "(I)I"⟩
theorem d11_taken_0 : decode b11_taken 0 = .ok (.aload_n 0, 1) := by decide +kernel
theorem d11_taken_1 : decode b11_taken 1 = .ok (.getfield 26, 3) := by decide +kernel
theorem d11_taken_4 : decode b11_taken 4 = .ok (.iload_n 1, 1) := by decide +kernel
theorem d11_taken_5 : decode b11_taken 5 = .ok (.invokevirtual 179, 3) := by decide +kernel
theorem d11_taken_8 : decode b11_taken 8 = .ok (.ifCond .eq 15, 3) := by decide +kernel
theorem d11_taken_11 : decode b11_taken 11 = .ok (.aload_n 0, 1) := by decide +kernel
theorem d11_taken_12 : decode b11_taken 12 = .ok (.getfield 67, 3) := by decide +kernel
theorem d11_taken_15 : decode b11_taken 15 = .ok (.getfield 189, 3) := by decide +kernel
theorem d11_taken_18 : decode b11_taken 18 = .ok (.iload_n 1, 1) := by decide +kernel
theorem d11_taken_19 : decode b11_taken 19 = .ok (.iaload, 1) := by decide +kernel
theorem d11_taken_20 : decode b11_taken 20 = .ok (.goto 5, 3) := by decide +kernel
theorem d11_taken_23 : decode b11_taken 23 = .ok (.bipush (-2), 2) := by decide +kernel
theorem d11_taken_25 : decode b11_taken 25 = .ok (.ireturn, 1) := by decide +kernel
theorem fl_11_189 : Cond.fieldLink cn_11 189 (ft_3 2).1 (ft_3 2).2.1 (ft_3 2).2.2.1 ∈ ce_cm := ce_cm_of (List.mem_of_getElem? (i := 385) (by decide +kernel)) (by decide +kernel)
theorem gf_11_189 (C : ce_Cx p s m args c meth cc nL ret cn_11 D ad cA B0 (ce_St aK aV B0)) (hH : ce_H D ad cA B0 X s h H locs) {k : Nat} (hk : ce_isEl k) (hdg : decode cc pc = .ok (.getfield 189, 3)) (kk : W p l e0 R s m args below meth c H locs cells slots Q (F0 m (pc + 3) ls (.ref (ad (k + 3)) :: rest))) : W p l e0 R s m args below meth c H locs cells slots Q (F0 m pc ls (.ref (ad k) :: rest)) := by
  rcases hk with rfl | rfl
  · exact ce_get C hH (k := 48) (ci := 3) (j := 2) (N := 6) (sj := some (some 51)) (by decide) rfl rfl fw_3 (by decide) fl_11_189 rfl hdg kk
  · exact ce_get C hH (k := 55) (ci := 3) (j := 2) (N := 6) (sj := some (some 58)) (by decide) rfl rfl fw_3 (by decide) fl_11_189 rfl hdg kk
def f11_taken (F : Nat) (x1 : Int32) (h : Hp) : Option (Int32 × Hp) :=
  ce_nm ((h 0 2).toNatClampNeg) (fun k_1 => if ce_isNet k_1 then
    Option.bind (f5_hasNode F k_1 x1 h) (fun o5 =>
      if o5.1 = 0 then
        some ((-2 : Int32), o5.2)
      else
        if ce_in x1 10 = true then
          some (o5.2 (48 + 3) (x1).toNatClampNeg, o5.2)
        else none)
  else none)
set_option maxRecDepth 20000 in
theorem c11_taken (l : Launch) (D : va_G) (ad : Nat → Nat) (cA : Nat → ClassId) (aK aV : Nat → Nat) (B0 : Nat) (hA : ce_Ad ad B0) (F : Nat) (x1 : Int32)  (h : Hp) (r : Int32 × Hp) (e : f11_taken F x1 h = some r) : ce_Ct l D ad cA B0 (ce_St aK aV B0) y11_taken b11_taken 2 (some .int) 1 21 0 0 [.ref (ad 0), .int x1] h (some (.int r.1)) r.2 := by
  refine ce_enter hA (by decide) rfl (Nat.le_of_ble_eq_true rfl) (fun p e0 s m below meth c ls C hH hl => ?_)
  have hl : lv_has ls 2 [(0, .ref (ad 0)), (1, .int x1)] := hl
  have hx := C.1
  have hb := C.2.1
  have e : Option.bind _ some = some r := (congrArg (fun z => Option.bind z some) e).trans rfl
  unfold f11_taken at e
  refine lv_aload_n hx hb d11_taken_0 rfl (lv_at hl 0 rfl) ?_
  refine gf_11_26 C hH d11_taken_1 ?_
  obtain ⟨k_1, ek_1, e⟩ := ce_nmE e
  obtain ⟨hk_1, e⟩ := ce_gd e
  rw [← ek_1]
  refine lv_iload_n hx hb d11_taken_4 rfl (lv_at hl 1 rfl) ?_
  obtain ⟨o5, eo5, e⟩ := ce_bd e
  refine ce_callV (As := [.int x1]) (rest := []) C (ce_sok aK aV B0) hH (c5_hasNode l D ad cA aK aV B0 C.2.2.2.2.2.2.1 F k_1 x1 hk_1 h o5 eo5) (lk_Net hk_1).1 (lk_Net hk_1).2.choose_spec rfl rfl mc5_hasNode ml_11_179 mi5_hasNode ms5_hasNode mI_5 (n := 1) (by decide) rfl ⟨Nat.le_of_ble_eq_true rfl, Nat.le_of_ble_eq_true rfl⟩ ⟨Nat.le_of_ble_eq_true rfl, Nat.le_of_ble_eq_true rfl⟩ hl.1 rfl (Nat.le_of_ble_eq_true rfl) d11_taken_5 (fun H locs hH => ?_)
  refine W.eq (g2 := F0 m 8 ls [.int o5.1]) rfl ?_
  refine lv_if_eq (tgt := 23) hx hb d11_taken_8 (by decide) (fun hc8 => ?_) (fun hc8 => ?_)
  · have e := ce_if1 e hc8
    refine lv_bipush (v := (-2 : Int32)) hx hb d11_taken_23 (by decide) ?_
    exact ce_iretE C (ce_sok aK aV B0) hH e d11_taken_25
  · have e := ce_if0 e hc8
    refine lv_aload_n hx hb d11_taken_11 rfl (lv_at hl 0 rfl) ?_
    refine gf_11_67 C hH d11_taken_12 ?_
    refine gf_11_189 C hH (Or.inl rfl) d11_taken_15 ?_
    refine lv_iload_n hx hb d11_taken_18 rfl (lv_at hl 1 rfl) ?_
    obtain ⟨hi19, e⟩ := ce_gd e
    refine ce_iald C hH (la_El_3 (Or.inl rfl)).1 (la_El_3 (Or.inl rfl)).2 (ce_in_vp hi19) d11_taken_19 ?_
    refine lv_goto (tgt := 25) hx hb d11_taken_20 (by decide) ?_
    exact ce_iretE C (ce_sok aK aV B0) hH e d11_taken_25
abbrev b11_id : ByteArray := prog_1_method_13_code
def y11_id : MethodName := ⟨cn_11, "id", "(I)I"⟩
theorem d11_id_0 : decode b11_id 0 = .ok (.aload_n 0, 1) := by decide +kernel
theorem d11_id_1 : decode b11_id 1 = .ok (.iload_n 1, 1) := by decide +kernel
theorem d11_id_2 : decode b11_id 2 = .ok (.invokevirtual 169, 3) := by decide +kernel
theorem d11_id_5 : decode b11_id 5 = .ok (.istore_n 2, 1) := by decide +kernel
theorem d11_id_6 : decode b11_id 6 = .ok (.iload_n 2, 1) := by decide +kernel
theorem d11_id_7 : decode b11_id 7 = .ok (.ifCond .eq 7, 3) := by decide +kernel
theorem d11_id_10 : decode b11_id 10 = .ok (.iload_n 2, 1) := by decide +kernel
theorem d11_id_11 : decode b11_id 11 = .ok (.goto 12, 3) := by decide +kernel
theorem d11_id_14 : decode b11_id 14 = .ok (.aload_n 0, 1) := by decide +kernel
theorem d11_id_15 : decode b11_id 15 = .ok (.getfield 77, 3) := by decide +kernel
theorem d11_id_18 : decode b11_id 18 = .ok (.getfield 192, 3) := by decide +kernel
theorem d11_id_21 : decode b11_id 21 = .ok (.iload_n 1, 1) := by decide +kernel
theorem d11_id_22 : decode b11_id 22 = .ok (.iaload, 1) := by decide +kernel
theorem d11_id_23 : decode b11_id 23 = .ok (.ireturn, 1) := by decide +kernel
theorem fl_11_192 : Cond.fieldLink cn_11 192 (ft_4 0).1 (ft_4 0).2.1 (ft_4 0).2.2.1 ∈ ce_cm := ce_cm_of (List.mem_of_getElem? (i := 409) (by decide +kernel)) (by decide +kernel)
theorem gf_11_192 (C : ce_Cx p s m args c meth cc nL ret cn_11 D ad cA B0 (ce_St aK aV B0)) (hH : ce_H D ad cA B0 X s h H locs) (hdg : decode cc pc = .ok (.getfield 192, 3)) (kk : W p l e0 R s m args below meth c H locs cells slots Q (F0 m (pc + 3) ls (.ref (ad 63) :: rest))) : W p l e0 R s m args below meth c H locs cells slots Q (F0 m pc ls (.ref (ad 62) :: rest)) := by
  exact ce_get C hH (k := 62) (ci := 4) (j := 0) (N := 2) (sj := some (some 63)) (by decide) rfl rfl fw_4 (by decide) fl_11_192 rfl hdg kk
def f11_id (F : Nat) (x1 : Int32) (h : Hp) : Option (Int32 × Hp) :=
  Option.bind (f11_refusalOf F x1 h) (fun o2 =>
    if o2.1 = 0 then
      if ce_in x1 10 = true then
        some (o2.2 63 (x1).toNatClampNeg, o2.2)
      else none
    else
      some (o2.1, o2.2))
set_option maxRecDepth 20000 in
theorem c11_id (l : Launch) (D : va_G) (ad : Nat → Nat) (cA : Nat → ClassId) (aK aV : Nat → Nat) (B0 : Nat) (hA : ce_Ad ad B0) (F : Nat) (x1 : Int32)  (h : Hp) (r : Int32 × Hp) (e : f11_id F x1 h = some r) : ce_Ct l D ad cA B0 (ce_St aK aV B0) y11_id b11_id 3 (some .int) 4 84 0 0 [.ref (ad 0), .int x1] h (some (.int r.1)) r.2 := by
  refine ce_enter hA (by decide) rfl (Nat.le_of_ble_eq_true rfl) (fun p e0 s m below meth c ls C hH hl => ?_)
  have hl : lv_has ls 3 [(0, .ref (ad 0)), (1, .int x1)] := hl
  have hx := C.1
  have hb := C.2.1
  have e : Option.bind _ some = some r := (congrArg (fun z => Option.bind z some) e).trans rfl
  unfold f11_id at e
  refine lv_aload_n hx hb d11_id_0 rfl (lv_at hl 0 rfl) ?_
  refine lv_iload_n hx hb d11_id_1 rfl (lv_at hl 1 rfl) ?_
  obtain ⟨o2, eo2, e⟩ := ce_bd e
  refine ce_callV (As := [.int x1]) (rest := []) C (ce_sok aK aV B0) hH (c11_refusalOf l D ad cA aK aV B0 C.2.2.2.2.2.2.1 F x1  h o2 eo2) lo_0.1 lo_0.2.choose_spec rfl rfl mc11_refusalOf ml_11_169 mi11_refusalOf ms11_refusalOf mI_11 (n := 1) (by decide) rfl ⟨Nat.le_of_ble_eq_true rfl, Nat.le_of_ble_eq_true rfl⟩ ⟨Nat.le_of_ble_eq_true rfl, Nat.le_of_ble_eq_true rfl⟩ hl.1 rfl (Nat.le_of_ble_eq_true rfl) d11_id_2 (fun H locs hH => ?_)
  refine W.eq (g2 := F0 m 5 ls [.int o2.1]) rfl ?_
  refine lv_istore_n (lv' := [(2, .int o2.1), (0, .ref (ad 0)), (1, .int x1)]) hx hb d11_id_5 rfl hl (by decide) rfl (fun ls hl => ?_)
  refine lv_iload_n hx hb d11_id_6 rfl (lv_at hl 0 rfl) ?_
  refine lv_if_eq (tgt := 14) hx hb d11_id_7 (by decide) (fun hc7 => ?_) (fun hc7 => ?_)
  · have e := ce_if1 e hc7
    refine lv_aload_n hx hb d11_id_14 rfl (lv_at hl 1 rfl) ?_
    refine gf_11_77 C hH d11_id_15 ?_
    refine gf_11_192 C hH d11_id_18 ?_
    refine lv_iload_n hx hb d11_id_21 rfl (lv_at hl 2 rfl) ?_
    obtain ⟨hi22, e⟩ := ce_gd e
    refine ce_iald C hH lc_63.1 lc_63.2 (ce_in_vp hi22) d11_id_22 ?_
    exact ce_iretE C (ce_sok aK aV B0) hH e d11_id_23
  · have e := ce_if0 e hc7
    refine lv_iload_n hx hb d11_id_10 rfl (lv_at hl 0 rfl) ?_
    refine lv_goto (tgt := 23) hx hb d11_id_11 (by decide) ?_
    exact ce_iretE C (ce_sok aK aV B0) hH e d11_id_23
abbrev b11_named : ByteArray := prog_1_method_14_code
def y11_named : MethodName := ⟨cn_11, "named", "(II)I"⟩
theorem d11_named_0 : decode b11_named 0 = .ok (.aload_n 0, 1) := by decide +kernel
theorem d11_named_1 : decode b11_named 1 = .ok (.iload_n 1, 1) := by decide +kernel
theorem d11_named_2 : decode b11_named 2 = .ok (.invokevirtual 169, 3) := by decide +kernel
theorem d11_named_5 : decode b11_named 5 = .ok (.istore_n 3, 1) := by decide +kernel
theorem d11_named_6 : decode b11_named 6 = .ok (.iload_n 3, 1) := by decide +kernel
theorem d11_named_7 : decode b11_named 7 = .ok (.ifCond .eq 7, 3) := by decide +kernel
theorem d11_named_10 : decode b11_named 10 = .ok (.iload_n 3, 1) := by decide +kernel
theorem d11_named_11 : decode b11_named 11 = .ok (.goto 16, 3) := by decide +kernel
theorem d11_named_14 : decode b11_named 14 = .ok (.aload_n 0, 1) := by decide +kernel
theorem d11_named_15 : decode b11_named 15 = .ok (.getfield 77, 3) := by decide +kernel
theorem d11_named_18 : decode b11_named 18 = .ok (.aload_n 0, 1) := by decide +kernel
theorem d11_named_19 : decode b11_named 19 = .ok (.getfield 60, 3) := by decide +kernel
theorem d11_named_22 : decode b11_named 22 = .ok (.iload_n 1, 1) := by decide +kernel
theorem d11_named_23 : decode b11_named 23 = .ok (.iload_n 2, 1) := by decide +kernel
theorem d11_named_24 : decode b11_named 24 = .ok (.invokevirtual 195, 3) := by decide +kernel
theorem d11_named_27 : decode b11_named 27 = .ok (.ireturn, 1) := by decide +kernel
theorem ml_11_195 : Cond.methodLink cn_11 195 y4_nodeWith ∈ ce_cm := ce_cm_of (List.mem_of_getElem? (i := 869) (by decide +kernel)) (by decide +kernel)
def f11_named (F : Nat) (x1 : Int32) (x2 : Int32) (h : Hp) : Option (Int32 × Hp) :=
  Option.bind (f11_refusalOf F x1 h) (fun o2 =>
    if o2.1 = 0 then
      Option.bind (f4_nodeWith F x1 x2 o2.2) (fun o24 =>
        some (o24.1, o24.2))
    else
      some (o2.1, o2.2))
set_option maxRecDepth 20000 in
theorem c11_named (l : Launch) (D : va_G) (ad : Nat → Nat) (cA : Nat → ClassId) (aK aV : Nat → Nat) (B0 : Nat) (hA : ce_Ad ad B0) (F : Nat) (x1 : Int32) (x2 : Int32)  (h : Hp) (r : Int32 × Hp) (e : f11_named F x1 x2 h = some r) : ce_Ct l D ad cA B0 (ce_St aK aV B0) y11_named b11_named 4 (some .int) 4 84 0 0 [.ref (ad 0), .int x1, .int x2] h (some (.int r.1)) r.2 := by
  refine ce_enter hA (by decide) rfl (Nat.le_of_ble_eq_true rfl) (fun p e0 s m below meth c ls C hH hl => ?_)
  have hl : lv_has ls 4 [(0, .ref (ad 0)), (1, .int x1), (2, .int x2)] := hl
  have hx := C.1
  have hb := C.2.1
  have e : Option.bind _ some = some r := (congrArg (fun z => Option.bind z some) e).trans rfl
  unfold f11_named at e
  refine lv_aload_n hx hb d11_named_0 rfl (lv_at hl 0 rfl) ?_
  refine lv_iload_n hx hb d11_named_1 rfl (lv_at hl 1 rfl) ?_
  obtain ⟨o2, eo2, e⟩ := ce_bd e
  refine ce_callV (As := [.int x1]) (rest := []) C (ce_sok aK aV B0) hH (c11_refusalOf l D ad cA aK aV B0 C.2.2.2.2.2.2.1 F x1  h o2 eo2) lo_0.1 lo_0.2.choose_spec rfl rfl mc11_refusalOf ml_11_169 mi11_refusalOf ms11_refusalOf mI_11 (n := 1) (by decide) rfl ⟨Nat.le_of_ble_eq_true rfl, Nat.le_of_ble_eq_true rfl⟩ ⟨Nat.le_of_ble_eq_true rfl, Nat.le_of_ble_eq_true rfl⟩ hl.1 rfl (Nat.le_of_ble_eq_true rfl) d11_named_2 (fun H locs hH => ?_)
  refine W.eq (g2 := F0 m 5 ls [.int o2.1]) rfl ?_
  refine lv_istore_n (lv' := [(3, .int o2.1), (0, .ref (ad 0)), (1, .int x1), (2, .int x2)]) hx hb d11_named_5 rfl hl (by decide) rfl (fun ls hl => ?_)
  refine lv_iload_n hx hb d11_named_6 rfl (lv_at hl 0 rfl) ?_
  refine lv_if_eq (tgt := 14) hx hb d11_named_7 (by decide) (fun hc7 => ?_) (fun hc7 => ?_)
  · have e := ce_if1 e hc7
    refine lv_aload_n hx hb d11_named_14 rfl (lv_at hl 1 rfl) ?_
    refine gf_11_77 C hH d11_named_15 ?_
    refine lv_aload_n hx hb d11_named_18 rfl (lv_at hl 1 rfl) ?_
    refine gf_11_60 C hH d11_named_19 ?_
    refine lv_iload_n hx hb d11_named_22 rfl (lv_at hl 2 rfl) ?_
    refine lv_iload_n hx hb d11_named_23 rfl (lv_at hl 3 rfl) ?_
    obtain ⟨o24, eo24, e⟩ := ce_bd e
    refine ce_callV (As := [.ref (ad 44), .int x1, .int x2]) (rest := []) C (ce_sok aK aV B0) hH (c4_nodeWith l D ad cA aK aV B0 C.2.2.2.2.2.2.1 F x1 x2  o2.2 o24 eo24) lo_62.1 lo_62.2.choose_spec rfl rfl mc4_nodeWith ml_11_195 mi4_nodeWith ms4_nodeWith mI_4 (n := 3) (by decide) rfl ⟨Nat.le_of_ble_eq_true rfl, Nat.le_of_ble_eq_true rfl⟩ ⟨Nat.le_of_ble_eq_true rfl, Nat.le_of_ble_eq_true rfl⟩ hl.1 rfl (Nat.le_of_ble_eq_true rfl) d11_named_24 (fun H locs hH => ?_)
    refine W.eq (g2 := F0 m 27 ls [.int o24.1]) rfl ?_
    exact ce_iretE C (ce_sok aK aV B0) hH e d11_named_27
  · have e := ce_if0 e hc7
    refine lv_iload_n hx hb d11_named_10 rfl (lv_at hl 0 rfl) ?_
    refine lv_goto (tgt := 27) hx hb d11_named_11 (by decide) ?_
    exact ce_iretE C (ce_sok aK aV B0) hH e d11_named_27
abbrev b11_size : ByteArray := prog_1_method_15_code
def y11_size : MethodName := ⟨cn_11, "size", "(I)I"⟩
theorem d11_size_0 : decode b11_size 0 = .ok (.aload_n 0, 1) := by decide +kernel
theorem d11_size_1 : decode b11_size 1 = .ok (.getfield 26, 3) := by decide +kernel
theorem d11_size_4 : decode b11_size 4 = .ok (.iload_n 1, 1) := by decide +kernel
theorem d11_size_5 : decode b11_size 5 = .ok (.invokevirtual 179, 3) := by decide +kernel
theorem d11_size_8 : decode b11_size 8 = .ok (.ifCond .eq 14, 3) := by decide +kernel
theorem d11_size_11 : decode b11_size 11 = .ok (.aload_n 0, 1) := by decide +kernel
theorem d11_size_12 : decode b11_size 12 = .ok (.getfield 60, 3) := by decide +kernel
theorem d11_size_15 : decode b11_size 15 = .ok (.iload_n 1, 1) := by decide +kernel
theorem d11_size_16 : decode b11_size 16 = .ok (.invokevirtual 199, 3) := by decide +kernel
theorem d11_size_19 : decode b11_size 19 = .ok (.goto 5, 3) := by decide +kernel
theorem d11_size_22 : decode b11_size 22 = .ok (.bipush (-2), 2) := by decide +kernel
theorem d11_size_24 : decode b11_size 24 = .ok (.ireturn, 1) := by decide +kernel
theorem ml_11_199 : Cond.methodLink cn_11 199 y2_nodesIn ∈ ce_cm := ce_cm_of (List.mem_of_getElem? (i := 877) (by decide +kernel)) (by decide +kernel)
def f11_size (F : Nat) (x1 : Int32) (h : Hp) : Option (Int32 × Hp) :=
  ce_nm ((h 0 2).toNatClampNeg) (fun k_1 => if ce_isNet k_1 then
    Option.bind (f5_hasNode F k_1 x1 h) (fun o5 =>
      if o5.1 = 0 then
        some ((-2 : Int32), o5.2)
      else
        Option.bind (f2_nodesIn F x1 o5.2) (fun o16 =>
          some (o16.1, o16.2)))
  else none)
set_option maxRecDepth 20000 in
theorem c11_size (l : Launch) (D : va_G) (ad : Nat → Nat) (cA : Nat → ClassId) (aK aV : Nat → Nat) (B0 : Nat) (hA : ce_Ad ad B0) (F : Nat) (x1 : Int32)  (h : Hp) (r : Int32 × Hp) (e : f11_size F x1 h = some r) : ce_Ct l D ad cA B0 (ce_St aK aV B0) y11_size b11_size 2 (some .int) 2 42 0 0 [.ref (ad 0), .int x1] h (some (.int r.1)) r.2 := by
  refine ce_enter hA (by decide) rfl (Nat.le_of_ble_eq_true rfl) (fun p e0 s m below meth c ls C hH hl => ?_)
  have hl : lv_has ls 2 [(0, .ref (ad 0)), (1, .int x1)] := hl
  have hx := C.1
  have hb := C.2.1
  have e : Option.bind _ some = some r := (congrArg (fun z => Option.bind z some) e).trans rfl
  unfold f11_size at e
  refine lv_aload_n hx hb d11_size_0 rfl (lv_at hl 0 rfl) ?_
  refine gf_11_26 C hH d11_size_1 ?_
  obtain ⟨k_1, ek_1, e⟩ := ce_nmE e
  obtain ⟨hk_1, e⟩ := ce_gd e
  rw [← ek_1]
  refine lv_iload_n hx hb d11_size_4 rfl (lv_at hl 1 rfl) ?_
  obtain ⟨o5, eo5, e⟩ := ce_bd e
  refine ce_callV (As := [.int x1]) (rest := []) C (ce_sok aK aV B0) hH (c5_hasNode l D ad cA aK aV B0 C.2.2.2.2.2.2.1 F k_1 x1 hk_1 h o5 eo5) (lk_Net hk_1).1 (lk_Net hk_1).2.choose_spec rfl rfl mc5_hasNode ml_11_179 mi5_hasNode ms5_hasNode mI_5 (n := 1) (by decide) rfl ⟨Nat.le_of_ble_eq_true rfl, Nat.le_of_ble_eq_true rfl⟩ ⟨Nat.le_of_ble_eq_true rfl, Nat.le_of_ble_eq_true rfl⟩ hl.1 rfl (Nat.le_of_ble_eq_true rfl) d11_size_5 (fun H locs hH => ?_)
  refine W.eq (g2 := F0 m 8 ls [.int o5.1]) rfl ?_
  refine lv_if_eq (tgt := 22) hx hb d11_size_8 (by decide) (fun hc8 => ?_) (fun hc8 => ?_)
  · have e := ce_if1 e hc8
    refine lv_bipush (v := (-2 : Int32)) hx hb d11_size_22 (by decide) ?_
    exact ce_iretE C (ce_sok aK aV B0) hH e d11_size_24
  · have e := ce_if0 e hc8
    refine lv_aload_n hx hb d11_size_11 rfl (lv_at hl 0 rfl) ?_
    refine gf_11_60 C hH d11_size_12 ?_
    refine lv_iload_n hx hb d11_size_15 rfl (lv_at hl 1 rfl) ?_
    obtain ⟨o16, eo16, e⟩ := ce_bd e
    refine ce_callV (As := [.int x1]) (rest := []) C (ce_sok aK aV B0) hH (c2_nodesIn l D ad cA aK aV B0 C.2.2.2.2.2.2.1 F x1  o5.2 o16 eo16) lo_44.1 lo_44.2.choose_spec rfl rfl mc2_nodesIn ml_11_199 mi2_nodesIn ms2_nodesIn mI_2 (n := 1) (by decide) rfl ⟨Nat.le_of_ble_eq_true rfl, Nat.le_of_ble_eq_true rfl⟩ ⟨Nat.le_of_ble_eq_true rfl, Nat.le_of_ble_eq_true rfl⟩ hl.1 rfl (Nat.le_of_ble_eq_true rfl) d11_size_16 (fun H locs hH => ?_)
    refine W.eq (g2 := F0 m 19 ls [.int o16.1]) rfl ?_
    refine lv_goto (tgt := 24) hx hb d11_size_19 (by decide) ?_
    exact ce_iretE C (ce_sok aK aV B0) hH e d11_size_24
abbrev b11_parent : ByteArray := prog_1_method_16_code
def y11_parent : MethodName := ⟨cn_11, "parent", "(I)I"⟩
theorem d11_parent_0 : decode b11_parent 0 = .ok (.aload_n 0, 1) := by decide +kernel
theorem d11_parent_1 : decode b11_parent 1 = .ok (.iload_n 1, 1) := by decide +kernel
theorem d11_parent_2 : decode b11_parent 2 = .ok (.invokevirtual 169, 3) := by decide +kernel
theorem d11_parent_5 : decode b11_parent 5 = .ok (.istore_n 2, 1) := by decide +kernel
theorem d11_parent_6 : decode b11_parent 6 = .ok (.iload_n 2, 1) := by decide +kernel
theorem d11_parent_7 : decode b11_parent 7 = .ok (.ifCond .eq 7, 3) := by decide +kernel
theorem d11_parent_10 : decode b11_parent 10 = .ok (.iload_n 2, 1) := by decide +kernel
theorem d11_parent_11 : decode b11_parent 11 = .ok (.goto 15, 3) := by decide +kernel
theorem d11_parent_14 : decode b11_parent 14 = .ok (.aload_n 0, 1) := by decide +kernel
theorem d11_parent_15 : decode b11_parent 15 = .ok (.getfield 67, 3) := by decide +kernel
theorem d11_parent_18 : decode b11_parent 18 = .ok (.aload_n 0, 1) := by decide +kernel
theorem d11_parent_19 : decode b11_parent 19 = .ok (.getfield 26, 3) := by decide +kernel
theorem d11_parent_22 : decode b11_parent 22 = .ok (.iload_n 1, 1) := by decide +kernel
theorem d11_parent_23 : decode b11_parent 23 = .ok (.invokevirtual 202, 3) := by decide +kernel
theorem d11_parent_26 : decode b11_parent 26 = .ok (.ireturn, 1) := by decide +kernel
theorem ml_11_202 : Cond.methodLink cn_11 202 y3_parentOf ∈ ce_cm := ce_cm_of (List.mem_of_getElem? (i := 882) (by decide +kernel)) (by decide +kernel)
def f11_parent (F : Nat) (x1 : Int32) (h : Hp) : Option (Int32 × Hp) :=
  Option.bind (f11_refusalOf F x1 h) (fun o2 =>
    if o2.1 = 0 then
      ce_nm ((o2.2 0 2).toNatClampNeg) (fun k_19 => if ce_isNet k_19 then
        Option.bind (f3_parentOf F 48 k_19 x1 o2.2) (fun o23 =>
          some (o23.1, o23.2))
      else none)
    else
      some (o2.1, o2.2))
set_option maxRecDepth 20000 in
theorem c11_parent (l : Launch) (D : va_G) (ad : Nat → Nat) (cA : Nat → ClassId) (aK aV : Nat → Nat) (B0 : Nat) (hA : ce_Ad ad B0) (F : Nat) (x1 : Int32)  (h : Hp) (r : Int32 × Hp) (e : f11_parent F x1 h = some r) : ce_Ct l D ad cA B0 (ce_St aK aV B0) y11_parent b11_parent 3 (some .int) 4 84 0 0 [.ref (ad 0), .int x1] h (some (.int r.1)) r.2 := by
  refine ce_enter hA (by decide) rfl (Nat.le_of_ble_eq_true rfl) (fun p e0 s m below meth c ls C hH hl => ?_)
  have hl : lv_has ls 3 [(0, .ref (ad 0)), (1, .int x1)] := hl
  have hx := C.1
  have hb := C.2.1
  have e : Option.bind _ some = some r := (congrArg (fun z => Option.bind z some) e).trans rfl
  unfold f11_parent at e
  refine lv_aload_n hx hb d11_parent_0 rfl (lv_at hl 0 rfl) ?_
  refine lv_iload_n hx hb d11_parent_1 rfl (lv_at hl 1 rfl) ?_
  obtain ⟨o2, eo2, e⟩ := ce_bd e
  refine ce_callV (As := [.int x1]) (rest := []) C (ce_sok aK aV B0) hH (c11_refusalOf l D ad cA aK aV B0 C.2.2.2.2.2.2.1 F x1  h o2 eo2) lo_0.1 lo_0.2.choose_spec rfl rfl mc11_refusalOf ml_11_169 mi11_refusalOf ms11_refusalOf mI_11 (n := 1) (by decide) rfl ⟨Nat.le_of_ble_eq_true rfl, Nat.le_of_ble_eq_true rfl⟩ ⟨Nat.le_of_ble_eq_true rfl, Nat.le_of_ble_eq_true rfl⟩ hl.1 rfl (Nat.le_of_ble_eq_true rfl) d11_parent_2 (fun H locs hH => ?_)
  refine W.eq (g2 := F0 m 5 ls [.int o2.1]) rfl ?_
  refine lv_istore_n (lv' := [(2, .int o2.1), (0, .ref (ad 0)), (1, .int x1)]) hx hb d11_parent_5 rfl hl (by decide) rfl (fun ls hl => ?_)
  refine lv_iload_n hx hb d11_parent_6 rfl (lv_at hl 0 rfl) ?_
  refine lv_if_eq (tgt := 14) hx hb d11_parent_7 (by decide) (fun hc7 => ?_) (fun hc7 => ?_)
  · have e := ce_if1 e hc7
    refine lv_aload_n hx hb d11_parent_14 rfl (lv_at hl 1 rfl) ?_
    refine gf_11_67 C hH d11_parent_15 ?_
    refine lv_aload_n hx hb d11_parent_18 rfl (lv_at hl 1 rfl) ?_
    refine gf_11_26 C hH d11_parent_19 ?_
    obtain ⟨k_19, ek_19, e⟩ := ce_nmE e
    obtain ⟨hk_19, e⟩ := ce_gd e
    rw [← ek_19]
    refine lv_iload_n hx hb d11_parent_22 rfl (lv_at hl 2 rfl) ?_
    obtain ⟨o23, eo23, e⟩ := ce_bd e
    refine ce_callV (As := [.ref (ad k_19), .int x1]) (rest := []) C (ce_sok aK aV B0) hH (c3_parentOf l D ad cA aK aV B0 C.2.2.2.2.2.2.1 F 48 k_19 x1 (Or.inl rfl) hk_19 o2.2 o23 eo23) (lk_El (Or.inl rfl)).1 (lk_El (Or.inl rfl)).2.choose_spec rfl rfl mc3_parentOf ml_11_202 mi3_parentOf ms3_parentOf mI_3 (n := 2) (by decide) rfl ⟨Nat.le_of_ble_eq_true rfl, Nat.le_of_ble_eq_true rfl⟩ ⟨Nat.le_of_ble_eq_true rfl, Nat.le_of_ble_eq_true rfl⟩ hl.1 rfl (Nat.le_of_ble_eq_true rfl) d11_parent_23 (fun H locs hH => ?_)
    refine W.eq (g2 := F0 m 26 ls [.int o23.1]) rfl ?_
    exact ce_iretE C (ce_sok aK aV B0) hH e d11_parent_26
  · have e := ce_if0 e hc7
    refine lv_iload_n hx hb d11_parent_10 rfl (lv_at hl 0 rfl) ?_
    refine lv_goto (tgt := 26) hx hb d11_parent_11 (by decide) ?_
    exact ce_iretE C (ce_sok aK aV B0) hH e d11_parent_26
abbrev b11_depth : ByteArray := prog_1_method_17_code
def y11_depth : MethodName := ⟨cn_11, "depth", "(I)I"⟩
theorem d11_depth_0 : decode b11_depth 0 = .ok (.aload_n 0, 1) := by decide +kernel
theorem d11_depth_1 : decode b11_depth 1 = .ok (.iload_n 1, 1) := by decide +kernel
theorem d11_depth_2 : decode b11_depth 2 = .ok (.invokevirtual 169, 3) := by decide +kernel
theorem d11_depth_5 : decode b11_depth 5 = .ok (.istore_n 2, 1) := by decide +kernel
theorem d11_depth_6 : decode b11_depth 6 = .ok (.iload_n 2, 1) := by decide +kernel
theorem d11_depth_7 : decode b11_depth 7 = .ok (.ifCond .eq 5, 3) := by decide +kernel
theorem d11_depth_10 : decode b11_depth 10 = .ok (.iload_n 2, 1) := by decide +kernel
theorem d11_depth_11 : decode b11_depth 11 = .ok (.ireturn, 1) := by decide +kernel
theorem d11_depth_12 : decode b11_depth 12 = .ok (.iconst 0, 1) := by decide +kernel
theorem d11_depth_13 : decode b11_depth 13 = .ok (.istore_n 3, 1) := by decide +kernel
theorem d11_depth_14 : decode b11_depth 14 = .ok (.aload_n 0, 1) := by decide +kernel
theorem d11_depth_15 : decode b11_depth 15 = .ok (.getfield 67, 3) := by decide +kernel
theorem d11_depth_18 : decode b11_depth 18 = .ok (.aload_n 0, 1) := by decide +kernel
theorem d11_depth_19 : decode b11_depth 19 = .ok (.getfield 26, 3) := by decide +kernel
theorem d11_depth_22 : decode b11_depth 22 = .ok (.iload_n 1, 1) := by decide +kernel
theorem d11_depth_23 : decode b11_depth 23 = .ok (.invokevirtual 202, 3) := by decide +kernel
theorem d11_depth_26 : decode b11_depth 26 = .ok (.istore 4, 2) := by decide +kernel
theorem d11_depth_28 : decode b11_depth 28 = .ok (.iload 4, 2) := by decide +kernel
theorem d11_depth_30 : decode b11_depth 30 = .ok (.iconst (-1), 1) := by decide +kernel
theorem d11_depth_31 : decode b11_depth 31 = .ok (.if_icmp .eq 30, 3) := by decide +kernel
theorem d11_depth_34 : decode b11_depth 34 = .ok (.iload_n 3, 1) := by decide +kernel
theorem d11_depth_35 : decode b11_depth 35 = .ok (.bipush 10, 2) := by decide +kernel
theorem d11_depth_37 : decode b11_depth 37 = .ok (.if_icmp .ge 24, 3) := by decide +kernel
theorem d11_depth_40 : decode b11_depth 40 = .ok (.iinc 3 1, 3) := by decide +kernel
theorem d11_depth_43 : decode b11_depth 43 = .ok (.aload_n 0, 1) := by decide +kernel
theorem d11_depth_44 : decode b11_depth 44 = .ok (.getfield 67, 3) := by decide +kernel
theorem d11_depth_47 : decode b11_depth 47 = .ok (.aload_n 0, 1) := by decide +kernel
theorem d11_depth_48 : decode b11_depth 48 = .ok (.getfield 26, 3) := by decide +kernel
theorem d11_depth_51 : decode b11_depth 51 = .ok (.iload 4, 2) := by decide +kernel
theorem d11_depth_53 : decode b11_depth 53 = .ok (.invokevirtual 202, 3) := by decide +kernel
theorem d11_depth_56 : decode b11_depth 56 = .ok (.istore 4, 2) := by decide +kernel
theorem d11_depth_58 : decode b11_depth 58 = .ok (.goto (-30), 3) := by decide +kernel
theorem d11_depth_61 : decode b11_depth 61 = .ok (.iload_n 3, 1) := by decide +kernel
theorem d11_depth_62 : decode b11_depth 62 = .ok (.ireturn, 1) := by decide +kernel
def f11_depth_b28 (F : Nat) (x3 : Int32) (x4 : Int32) (h : Hp) : Option ((Int32 × Int32 × Hp) ⊕ (Int32 × Hp)) :=
  if x4 = (-1 : Int32) then
    some (.inr (x3, h))
  else
    if (10 : Int32) ≤ x3 then
      some (.inr (x3, h))
    else
      ce_nm ((h 0 2).toNatClampNeg) (fun k_48 => if ce_isNet k_48 then
        Option.bind (f3_parentOf F 48 k_48 x4 h) (fun o53 =>
          some (.inl (x3 + (1 : Int32), o53.1, o53.2)))
      else none)
set_option maxRecDepth 20000 in
theorem l11_depth_28 (C : ce_Cx p s m args c meth b11_depth 5 (some .int) cn_11 D ad cA B0 (ce_St aK aV B0)) (F : Nat)   (r : Int32 × Hp) (g : (Int32 × Hp) → Option (Int32 × Hp)) (hx : ∀ (x3 : Int32) (h : Hp) (H : Heap) (locs : List Loc) (ls : Array Slot), ce_H D ad cA B0 [] s h H locs → lv_has ls 5 [(3, .int x3)] → g (x3, h) = some r → W p l e0 { frames := 4, cells := 0, slots := 0, locals := 84 } s m args below meth c H locs 0 0 (MQ below (ce_Q D ad cA B0 (ce_St aK aV B0) (some (.int r.1)) r.2) args s 0 0 (fun q => B0 ≤ q)) (F0 m 61 ls [])) : ∀ (n : Nat) (x3 : Int32) (x4 : Int32) (h : Hp) (H : Heap) (locs : List Loc) (ls : Array Slot), ce_H D ad cA B0 [] s h H locs → lv_has ls 5 [(0, .ref (ad 0)), (3, .int x3), (4, .int x4)] → Option.bind (ce_it (fun (st : Int32 × Int32 × Hp) => f11_depth_b28 F  st.1 st.2.1 st.2.2) n (x3, x4, h)) g = some r → W p l e0 { frames := 4, cells := 0, slots := 0, locals := 84 } s m args below meth c H locs 0 0 (MQ below (ce_Q D ad cA B0 (ce_St aK aV B0) (some (.int r.1)) r.2) args s 0 0 (fun q => B0 ≤ q)) (F0 m 28 ls []) := by
  intro n
  induction n with
  | zero =>
    intro x3 x4 h H locs ls hH hl e
    exact absurd e (fun z => by cases z)
  | succ n ih =>
    intro x3 x4 h H locs ls hH hl e
    have hx9 := C.1
    have hb := C.2.1
    have e : Option.bind (f11_depth_b28 F  x3 x4 h) _ = some r := ce_it_bd e
    unfold f11_depth_b28 at e
    refine lv_iload hx9 hb d11_depth_28 (lv_at hl 2 rfl) ?_
    refine lv_iconst (v := (-1 : Int32)) hx9 hb d11_depth_30 (by decide) ?_
    refine lv_icmp_eq (tgt := 61) hx9 hb d11_depth_31 (by decide) (fun hc31 => ?_) (fun hc31 => ?_)
    · have e := ce_if1 e hc31
      exact hx x3 h _ _ _ hH (lv_sub hl [1] rfl) e
    · have e := ce_if0 e hc31
      refine lv_iload_n hx9 hb d11_depth_34 rfl (lv_at hl 1 rfl) ?_
      refine lv_bipush (v := (10 : Int32)) hx9 hb d11_depth_35 (by decide) ?_
      refine lv_icmp_ge (tgt := 61) hx9 hb d11_depth_37 (by decide) (fun hc37 => ?_) (fun hc37 => ?_)
      · have e := ce_if1 e hc37
        exact hx x3 h _ _ _ hH (lv_sub hl [1] rfl) e
      · have e := ce_if0 e hc37
        refine lv_iinc (v := x3 + (1 : Int32)) (lv' := [(3, .int (x3 + (1 : Int32))), (0, .ref (ad 0)), (4, .int x4)]) hx9 hb d11_depth_40 hl (k := 1) rfl rfl (by decide) rfl (fun ls hl => ?_)
        refine lv_aload_n hx9 hb d11_depth_43 rfl (lv_at hl 1 rfl) ?_
        refine gf_11_67 C hH d11_depth_44 ?_
        refine lv_aload_n hx9 hb d11_depth_47 rfl (lv_at hl 1 rfl) ?_
        refine gf_11_26 C hH d11_depth_48 ?_
        obtain ⟨k_48, ek_48, e⟩ := ce_nmE e
        obtain ⟨hk_48, e⟩ := ce_gd e
        rw [← ek_48]
        refine lv_iload hx9 hb d11_depth_51 (lv_at hl 2 rfl) ?_
        obtain ⟨o53, eo53, e⟩ := ce_bd e
        refine ce_callV (As := [.ref (ad k_48), .int x4]) (rest := []) C (ce_sok aK aV B0) hH (c3_parentOf l D ad cA aK aV B0 C.2.2.2.2.2.2.1 F 48 k_48 x4 (Or.inl rfl) hk_48 h o53 eo53) (lk_El (Or.inl rfl)).1 (lk_El (Or.inl rfl)).2.choose_spec rfl rfl mc3_parentOf ml_11_202 mi3_parentOf ms3_parentOf mI_3 (n := 2) (by decide) rfl ⟨Nat.le_of_ble_eq_true rfl, Nat.le_of_ble_eq_true rfl⟩ ⟨Nat.le_of_ble_eq_true rfl, Nat.le_of_ble_eq_true rfl⟩ hl.1 rfl (Nat.le_of_ble_eq_true rfl) d11_depth_53 (fun H locs hH => ?_)
        refine W.eq (g2 := F0 m 56 ls [.int o53.1]) rfl ?_
        refine lv_istore (lv' := [(4, .int o53.1), (3, .int (x3 + (1 : Int32))), (0, .ref (ad 0))]) hx9 hb d11_depth_56 hl (by decide) rfl (fun ls hl => ?_)
        refine lv_goto (tgt := 28) hx9 hb d11_depth_58 (by decide) ?_
        exact ih (x3 + (1 : Int32)) o53.1 o53.2 _ _ _ hH (lv_sub hl [2, 1, 0] rfl) e
def f11_depth (F : Nat) (x1 : Int32) (h : Hp) : Option (Int32 × Hp) :=
  Option.bind (f11_refusalOf F x1 h) (fun o2 =>
    if o2.1 = 0 then
      ce_nm ((o2.2 0 2).toNatClampNeg) (fun k_19 => if ce_isNet k_19 then
        Option.bind (f3_parentOf F 48 k_19 x1 o2.2) (fun o23 =>
          Option.bind (ce_it (fun (st : Int32 × Int32 × Hp) => f11_depth_b28 F  st.1 st.2.1 st.2.2) F ((0 : Int32), o23.1, o23.2)) (fun o28 =>
            some (o28.1, o28.2)))
      else none)
    else
      some (o2.1, o2.2))
set_option maxRecDepth 20000 in
theorem c11_depth (l : Launch) (D : va_G) (ad : Nat → Nat) (cA : Nat → ClassId) (aK aV : Nat → Nat) (B0 : Nat) (hA : ce_Ad ad B0) (F : Nat) (x1 : Int32)  (h : Hp) (r : Int32 × Hp) (e : f11_depth F x1 h = some r) : ce_Ct l D ad cA B0 (ce_St aK aV B0) y11_depth b11_depth 5 (some .int) 4 84 0 0 [.ref (ad 0), .int x1] h (some (.int r.1)) r.2 := by
  refine ce_enter hA (by decide) rfl (Nat.le_of_ble_eq_true rfl) (fun p e0 s m below meth c ls C hH hl => ?_)
  have hl : lv_has ls 5 [(0, .ref (ad 0)), (1, .int x1)] := hl
  have hx := C.1
  have hb := C.2.1
  have e : Option.bind _ some = some r := (congrArg (fun z => Option.bind z some) e).trans rfl
  unfold f11_depth at e
  refine lv_aload_n hx hb d11_depth_0 rfl (lv_at hl 0 rfl) ?_
  refine lv_iload_n hx hb d11_depth_1 rfl (lv_at hl 1 rfl) ?_
  obtain ⟨o2, eo2, e⟩ := ce_bd e
  refine ce_callV (As := [.int x1]) (rest := []) C (ce_sok aK aV B0) hH (c11_refusalOf l D ad cA aK aV B0 C.2.2.2.2.2.2.1 F x1  h o2 eo2) lo_0.1 lo_0.2.choose_spec rfl rfl mc11_refusalOf ml_11_169 mi11_refusalOf ms11_refusalOf mI_11 (n := 1) (by decide) rfl ⟨Nat.le_of_ble_eq_true rfl, Nat.le_of_ble_eq_true rfl⟩ ⟨Nat.le_of_ble_eq_true rfl, Nat.le_of_ble_eq_true rfl⟩ hl.1 rfl (Nat.le_of_ble_eq_true rfl) d11_depth_2 (fun H locs hH => ?_)
  refine W.eq (g2 := F0 m 5 ls [.int o2.1]) rfl ?_
  refine lv_istore_n (lv' := [(2, .int o2.1), (0, .ref (ad 0)), (1, .int x1)]) hx hb d11_depth_5 rfl hl (by decide) rfl (fun ls hl => ?_)
  refine lv_iload_n hx hb d11_depth_6 rfl (lv_at hl 0 rfl) ?_
  refine lv_if_eq (tgt := 12) hx hb d11_depth_7 (by decide) (fun hc7 => ?_) (fun hc7 => ?_)
  · have e := ce_if1 e hc7
    refine lv_iconst (v := (0 : Int32)) hx hb d11_depth_12 (by decide) ?_
    refine lv_istore_n (lv' := [(3, .int (0 : Int32)), (2, .int o2.1), (0, .ref (ad 0)), (1, .int x1)]) hx hb d11_depth_13 rfl hl (by decide) rfl (fun ls hl => ?_)
    refine lv_aload_n hx hb d11_depth_14 rfl (lv_at hl 2 rfl) ?_
    refine gf_11_67 C hH d11_depth_15 ?_
    refine lv_aload_n hx hb d11_depth_18 rfl (lv_at hl 2 rfl) ?_
    refine gf_11_26 C hH d11_depth_19 ?_
    obtain ⟨k_19, ek_19, e⟩ := ce_nmE e
    obtain ⟨hk_19, e⟩ := ce_gd e
    rw [← ek_19]
    refine lv_iload_n hx hb d11_depth_22 rfl (lv_at hl 3 rfl) ?_
    obtain ⟨o23, eo23, e⟩ := ce_bd e
    refine ce_callV (As := [.ref (ad k_19), .int x1]) (rest := []) C (ce_sok aK aV B0) hH (c3_parentOf l D ad cA aK aV B0 C.2.2.2.2.2.2.1 F 48 k_19 x1 (Or.inl rfl) hk_19 o2.2 o23 eo23) (lk_El (Or.inl rfl)).1 (lk_El (Or.inl rfl)).2.choose_spec rfl rfl mc3_parentOf ml_11_202 mi3_parentOf ms3_parentOf mI_3 (n := 2) (by decide) rfl ⟨Nat.le_of_ble_eq_true rfl, Nat.le_of_ble_eq_true rfl⟩ ⟨Nat.le_of_ble_eq_true rfl, Nat.le_of_ble_eq_true rfl⟩ hl.1 rfl (Nat.le_of_ble_eq_true rfl) d11_depth_23 (fun H locs hH => ?_)
    refine W.eq (g2 := F0 m 26 ls [.int o23.1]) rfl ?_
    refine lv_istore (lv' := [(4, .int o23.1), (3, .int (0 : Int32)), (2, .int o2.1), (0, .ref (ad 0)), (1, .int x1)]) hx hb d11_depth_26 hl (by decide) rfl (fun ls hl => ?_)
    refine l11_depth_28 C F   r _ (fun y28_3 h_28 H locs ls hH hl e => ?_) F (0 : Int32) o23.1 o23.2 _ _ _ hH (lv_sub hl [3, 1, 0] rfl) (ce_as e)
    try dsimp only at e
    refine lv_iload_n hx hb d11_depth_61 rfl (lv_at hl 0 rfl) ?_
    exact ce_iretE C (ce_sok aK aV B0) hH e d11_depth_62
  · have e := ce_if0 e hc7
    refine lv_iload_n hx hb d11_depth_10 rfl (lv_at hl 0 rfl) ?_
    exact ce_iretE C (ce_sok aK aV B0) hH e d11_depth_11
abbrev b11_below : ByteArray := prog_1_method_18_code
def y11_below : MethodName := ⟨cn_11, "below", "(I)I"⟩
theorem d11_below_0 : decode b11_below 0 = .ok (.aload_n 0, 1) := by decide +kernel
theorem d11_below_1 : decode b11_below 1 = .ok (.iload_n 1, 1) := by decide +kernel
theorem d11_below_2 : decode b11_below 2 = .ok (.invokevirtual 169, 3) := by decide +kernel
theorem d11_below_5 : decode b11_below 5 = .ok (.istore_n 2, 1) := by decide +kernel
theorem d11_below_6 : decode b11_below 6 = .ok (.iload_n 2, 1) := by decide +kernel
theorem d11_below_7 : decode b11_below 7 = .ok (.ifCond .eq 5, 3) := by decide +kernel
theorem d11_below_10 : decode b11_below 10 = .ok (.iload_n 2, 1) := by decide +kernel
theorem d11_below_11 : decode b11_below 11 = .ok (.ireturn, 1) := by decide +kernel
theorem d11_below_12 : decode b11_below 12 = .ok (.iconst 0, 1) := by decide +kernel
theorem d11_below_13 : decode b11_below 13 = .ok (.istore_n 3, 1) := by decide +kernel
theorem d11_below_14 : decode b11_below 14 = .ok (.iconst 0, 1) := by decide +kernel
theorem d11_below_15 : decode b11_below 15 = .ok (.istore 4, 2) := by decide +kernel
theorem d11_below_17 : decode b11_below 17 = .ok (.iload 4, 2) := by decide +kernel
theorem d11_below_19 : decode b11_below 19 = .ok (.aload_n 0, 1) := by decide +kernel
theorem d11_below_20 : decode b11_below 20 = .ok (.getfield 26, 3) := by decide +kernel
theorem d11_below_23 : decode b11_below 23 = .ok (.getfield 125, 3) := by decide +kernel
theorem d11_below_26 : decode b11_below 26 = .ok (.if_icmp .ge 29, 3) := by decide +kernel
theorem d11_below_29 : decode b11_below 29 = .ok (.aload_n 0, 1) := by decide +kernel
theorem d11_below_30 : decode b11_below 30 = .ok (.getfield 67, 3) := by decide +kernel
theorem d11_below_33 : decode b11_below 33 = .ok (.aload_n 0, 1) := by decide +kernel
theorem d11_below_34 : decode b11_below 34 = .ok (.getfield 26, 3) := by decide +kernel
theorem d11_below_37 : decode b11_below 37 = .ok (.iload 4, 2) := by decide +kernel
theorem d11_below_39 : decode b11_below 39 = .ok (.iload_n 1, 1) := by decide +kernel
theorem d11_below_40 : decode b11_below 40 = .ok (.invokevirtual 205, 3) := by decide +kernel
theorem d11_below_43 : decode b11_below 43 = .ok (.ifCond .eq 6, 3) := by decide +kernel
theorem d11_below_46 : decode b11_below 46 = .ok (.iinc 3 1, 3) := by decide +kernel
theorem d11_below_49 : decode b11_below 49 = .ok (.iinc 4 1, 3) := by decide +kernel
theorem d11_below_52 : decode b11_below 52 = .ok (.goto (-35), 3) := by decide +kernel
theorem d11_below_55 : decode b11_below 55 = .ok (.iload_n 3, 1) := by decide +kernel
theorem d11_below_56 : decode b11_below 56 = .ok (.ireturn, 1) := by decide +kernel
theorem mc3_isBelow : Cond.code y3_isBelow b3_isBelow 6 (some .boolean) ∈ ce_cm := ce_cm_of (List.mem_of_getElem? (i := 894) (by decide +kernel)) (by decide +kernel)
theorem ml_11_205 : Cond.methodLink cn_11 205 y3_isBelow ∈ ce_cm := ce_cm_of (List.mem_of_getElem? (i := 891) (by decide +kernel)) (by decide +kernel)
theorem mi3_isBelow : Cond.instanceMethod y3_isBelow ∈ ce_cm := ce_cm_of (List.mem_of_getElem? (i := 892) (by decide +kernel)) (by decide +kernel)
theorem ms3_isBelow : Cond.selects cn_3 y3_isBelow y3_isBelow ∈ ce_cm := ce_cm_of (List.mem_of_getElem? (i := 893) (by decide +kernel)) (by decide +kernel)
def f11_below_b17 (F : Nat) (x1 : Int32) (x3 : Int32) (x4 : Int32) (h : Hp) : Option ((Int32 × Int32 × Hp) ⊕ (Int32 × Hp)) :=
  ce_nm ((h 0 2).toNatClampNeg) (fun k_20 => if ce_isNet k_20 then
    if (h k_20 3) ≤ x4 then
      some (.inr (x3, h))
    else
      ce_nm ((h 0 2).toNatClampNeg) (fun k_34 => if ce_isNet k_34 then
        Option.bind (f3_isBelow F 48 k_34 x4 x1 h) (fun o40 =>
          if o40.1 = 0 then
            some (.inl (x3, x4 + (1 : Int32), o40.2))
          else
            some (.inl (x3 + (1 : Int32), x4 + (1 : Int32), o40.2)))
      else none)
  else none)
set_option maxRecDepth 20000 in
theorem l11_below_17 (C : ce_Cx p s m args c meth b11_below 5 (some .int) cn_11 D ad cA B0 (ce_St aK aV B0)) (F : Nat) (x1 : Int32)  (r : Int32 × Hp) (g : (Int32 × Hp) → Option (Int32 × Hp)) (hx : ∀ (x3 : Int32) (h : Hp) (H : Heap) (locs : List Loc) (ls : Array Slot), ce_H D ad cA B0 [] s h H locs → lv_has ls 5 [(3, .int x3)] → g (x3, h) = some r → W p l e0 { frames := 4, cells := 0, slots := 0, locals := 84 } s m args below meth c H locs 0 0 (MQ below (ce_Q D ad cA B0 (ce_St aK aV B0) (some (.int r.1)) r.2) args s 0 0 (fun q => B0 ≤ q)) (F0 m 55 ls [])) : ∀ (n : Nat) (x3 : Int32) (x4 : Int32) (h : Hp) (H : Heap) (locs : List Loc) (ls : Array Slot), ce_H D ad cA B0 [] s h H locs → lv_has ls 5 [(0, .ref (ad 0)), (1, .int x1), (3, .int x3), (4, .int x4)] → Option.bind (ce_it (fun (st : Int32 × Int32 × Hp) => f11_below_b17 F x1 st.1 st.2.1 st.2.2) n (x3, x4, h)) g = some r → W p l e0 { frames := 4, cells := 0, slots := 0, locals := 84 } s m args below meth c H locs 0 0 (MQ below (ce_Q D ad cA B0 (ce_St aK aV B0) (some (.int r.1)) r.2) args s 0 0 (fun q => B0 ≤ q)) (F0 m 17 ls []) := by
  intro n
  induction n with
  | zero =>
    intro x3 x4 h H locs ls hH hl e
    exact absurd e (fun z => by cases z)
  | succ n ih =>
    intro x3 x4 h H locs ls hH hl e
    have hx9 := C.1
    have hb := C.2.1
    have e : Option.bind (f11_below_b17 F x1 x3 x4 h) _ = some r := ce_it_bd e
    unfold f11_below_b17 at e
    refine lv_iload hx9 hb d11_below_17 (lv_at hl 3 rfl) ?_
    refine lv_aload_n hx9 hb d11_below_19 rfl (lv_at hl 0 rfl) ?_
    refine gf_11_26 C hH d11_below_20 ?_
    obtain ⟨k_20, ek_20, e⟩ := ce_nmE e
    obtain ⟨hk_20, e⟩ := ce_gd e
    rw [← ek_20]
    refine gf_11_125 C hH hk_20 d11_below_23 ?_
    refine lv_icmp_ge (tgt := 55) hx9 hb d11_below_26 (by decide) (fun hc26 => ?_) (fun hc26 => ?_)
    · have e := ce_if1 e hc26
      exact hx x3 h _ _ _ hH (lv_sub hl [2] rfl) e
    · have e := ce_if0 e hc26
      refine lv_aload_n hx9 hb d11_below_29 rfl (lv_at hl 0 rfl) ?_
      refine gf_11_67 C hH d11_below_30 ?_
      refine lv_aload_n hx9 hb d11_below_33 rfl (lv_at hl 0 rfl) ?_
      refine gf_11_26 C hH d11_below_34 ?_
      obtain ⟨k_34, ek_34, e⟩ := ce_nmE e
      obtain ⟨hk_34, e⟩ := ce_gd e
      rw [← ek_34]
      refine lv_iload hx9 hb d11_below_37 (lv_at hl 3 rfl) ?_
      refine lv_iload_n hx9 hb d11_below_39 rfl (lv_at hl 1 rfl) ?_
      obtain ⟨o40, eo40, e⟩ := ce_bd e
      refine ce_callV (As := [.ref (ad k_34), .int x4, .int x1]) (rest := []) C (ce_sok aK aV B0) hH (c3_isBelow l D ad cA aK aV B0 C.2.2.2.2.2.2.1 F 48 k_34 x4 x1 (Or.inl rfl) hk_34 h o40 eo40) (lk_El (Or.inl rfl)).1 (lk_El (Or.inl rfl)).2.choose_spec rfl rfl mc3_isBelow ml_11_205 mi3_isBelow ms3_isBelow mI_3 (n := 3) (by decide) rfl ⟨Nat.le_of_ble_eq_true rfl, Nat.le_of_ble_eq_true rfl⟩ ⟨Nat.le_of_ble_eq_true rfl, Nat.le_of_ble_eq_true rfl⟩ hl.1 rfl (Nat.le_of_ble_eq_true rfl) d11_below_40 (fun H locs hH => ?_)
      refine W.eq (g2 := F0 m 43 ls [.int o40.1]) rfl ?_
      refine lv_if_eq (tgt := 49) hx9 hb d11_below_43 (by decide) (fun hc43 => ?_) (fun hc43 => ?_)
      · have e := ce_if1 e hc43
        refine lv_iinc (v := x4 + (1 : Int32)) (lv' := [(4, .int (x4 + (1 : Int32))), (0, .ref (ad 0)), (1, .int x1), (3, .int x3)]) hx9 hb d11_below_49 hl (k := 3) rfl rfl (by decide) rfl (fun ls hl => ?_)
        refine lv_goto (tgt := 17) hx9 hb d11_below_52 (by decide) ?_
        exact ih x3 (x4 + (1 : Int32)) o40.2 _ _ _ hH (lv_sub hl [1, 2, 3, 0] rfl) e
      · have e := ce_if0 e hc43
        refine lv_iinc (v := x3 + (1 : Int32)) (lv' := [(3, .int (x3 + (1 : Int32))), (0, .ref (ad 0)), (1, .int x1), (4, .int x4)]) hx9 hb d11_below_46 hl (k := 2) rfl rfl (by decide) rfl (fun ls hl => ?_)
        refine lv_iinc (v := x4 + (1 : Int32)) (lv' := [(4, .int (x4 + (1 : Int32))), (3, .int (x3 + (1 : Int32))), (0, .ref (ad 0)), (1, .int x1)]) hx9 hb d11_below_49 hl (k := 3) rfl rfl (by decide) rfl (fun ls hl => ?_)
        refine lv_goto (tgt := 17) hx9 hb d11_below_52 (by decide) ?_
        exact ih (x3 + (1 : Int32)) (x4 + (1 : Int32)) o40.2 _ _ _ hH (lv_sub hl [2, 3, 1, 0] rfl) e
def f11_below (F : Nat) (x1 : Int32) (h : Hp) : Option (Int32 × Hp) :=
  Option.bind (f11_refusalOf F x1 h) (fun o2 =>
    if o2.1 = 0 then
      Option.bind (ce_it (fun (st : Int32 × Int32 × Hp) => f11_below_b17 F x1 st.1 st.2.1 st.2.2) F ((0 : Int32), (0 : Int32), o2.2)) (fun o17 =>
        some (o17.1, o17.2))
    else
      some (o2.1, o2.2))
set_option maxRecDepth 20000 in
theorem c11_below (l : Launch) (D : va_G) (ad : Nat → Nat) (cA : Nat → ClassId) (aK aV : Nat → Nat) (B0 : Nat) (hA : ce_Ad ad B0) (F : Nat) (x1 : Int32)  (h : Hp) (r : Int32 × Hp) (e : f11_below F x1 h = some r) : ce_Ct l D ad cA B0 (ce_St aK aV B0) y11_below b11_below 5 (some .int) 4 84 0 0 [.ref (ad 0), .int x1] h (some (.int r.1)) r.2 := by
  refine ce_enter hA (by decide) rfl (Nat.le_of_ble_eq_true rfl) (fun p e0 s m below meth c ls C hH hl => ?_)
  have hl : lv_has ls 5 [(0, .ref (ad 0)), (1, .int x1)] := hl
  have hx := C.1
  have hb := C.2.1
  have e : Option.bind _ some = some r := (congrArg (fun z => Option.bind z some) e).trans rfl
  unfold f11_below at e
  refine lv_aload_n hx hb d11_below_0 rfl (lv_at hl 0 rfl) ?_
  refine lv_iload_n hx hb d11_below_1 rfl (lv_at hl 1 rfl) ?_
  obtain ⟨o2, eo2, e⟩ := ce_bd e
  refine ce_callV (As := [.int x1]) (rest := []) C (ce_sok aK aV B0) hH (c11_refusalOf l D ad cA aK aV B0 C.2.2.2.2.2.2.1 F x1  h o2 eo2) lo_0.1 lo_0.2.choose_spec rfl rfl mc11_refusalOf ml_11_169 mi11_refusalOf ms11_refusalOf mI_11 (n := 1) (by decide) rfl ⟨Nat.le_of_ble_eq_true rfl, Nat.le_of_ble_eq_true rfl⟩ ⟨Nat.le_of_ble_eq_true rfl, Nat.le_of_ble_eq_true rfl⟩ hl.1 rfl (Nat.le_of_ble_eq_true rfl) d11_below_2 (fun H locs hH => ?_)
  refine W.eq (g2 := F0 m 5 ls [.int o2.1]) rfl ?_
  refine lv_istore_n (lv' := [(2, .int o2.1), (0, .ref (ad 0)), (1, .int x1)]) hx hb d11_below_5 rfl hl (by decide) rfl (fun ls hl => ?_)
  refine lv_iload_n hx hb d11_below_6 rfl (lv_at hl 0 rfl) ?_
  refine lv_if_eq (tgt := 12) hx hb d11_below_7 (by decide) (fun hc7 => ?_) (fun hc7 => ?_)
  · have e := ce_if1 e hc7
    refine lv_iconst (v := (0 : Int32)) hx hb d11_below_12 (by decide) ?_
    refine lv_istore_n (lv' := [(3, .int (0 : Int32)), (2, .int o2.1), (0, .ref (ad 0)), (1, .int x1)]) hx hb d11_below_13 rfl hl (by decide) rfl (fun ls hl => ?_)
    refine lv_iconst (v := (0 : Int32)) hx hb d11_below_14 (by decide) ?_
    refine lv_istore (lv' := [(4, .int (0 : Int32)), (3, .int (0 : Int32)), (2, .int o2.1), (0, .ref (ad 0)), (1, .int x1)]) hx hb d11_below_15 hl (by decide) rfl (fun ls hl => ?_)
    refine l11_below_17 C F x1  r _ (fun y17_3 h_17 H locs ls hH hl e => ?_) F (0 : Int32) (0 : Int32) o2.2 _ _ _ hH (lv_sub hl [3, 4, 1, 0] rfl) (ce_as e)
    try dsimp only at e
    refine lv_iload_n hx hb d11_below_55 rfl (lv_at hl 0 rfl) ?_
    exact ce_iretE C (ce_sok aK aV B0) hH e d11_below_56
  · have e := ce_if0 e hc7
    refine lv_iload_n hx hb d11_below_10 rfl (lv_at hl 0 rfl) ?_
    exact ce_iretE C (ce_sok aK aV B0) hH e d11_below_11
abbrev b11_wayRefusal : ByteArray := prog_1_method_43_code
def y11_wayRefusal : MethodName := ⟨cn_11, "wayRefusal", "(II)I"⟩
theorem d11_wayRefusal_0 : decode b11_wayRefusal 0 = .ok (.aload_n 0, 1) := by decide +kernel
theorem d11_wayRefusal_1 : decode b11_wayRefusal 1 = .ok (.getfield 26, 3) := by decide +kernel
theorem d11_wayRefusal_4 : decode b11_wayRefusal 4 = .ok (.iload_n 1, 1) := by decide +kernel
theorem d11_wayRefusal_5 : decode b11_wayRefusal 5 = .ok (.invokevirtual 179, 3) := by decide +kernel
theorem d11_wayRefusal_8 : decode b11_wayRefusal 8 = .ok (.ifCond .eq 14, 3) := by decide +kernel
theorem d11_wayRefusal_11 : decode b11_wayRefusal 11 = .ok (.aload_n 0, 1) := by decide +kernel
theorem d11_wayRefusal_12 : decode b11_wayRefusal 12 = .ok (.getfield 26, 3) := by decide +kernel
theorem d11_wayRefusal_15 : decode b11_wayRefusal 15 = .ok (.iload_n 2, 1) := by decide +kernel
theorem d11_wayRefusal_16 : decode b11_wayRefusal 16 = .ok (.invokevirtual 179, 3) := by decide +kernel
theorem d11_wayRefusal_19 : decode b11_wayRefusal 19 = .ok (.ifCond .ne 6, 3) := by decide +kernel
theorem d11_wayRefusal_22 : decode b11_wayRefusal 22 = .ok (.bipush (-2), 2) := by decide +kernel
theorem d11_wayRefusal_24 : decode b11_wayRefusal 24 = .ok (.ireturn, 1) := by decide +kernel
theorem d11_wayRefusal_25 : decode b11_wayRefusal 25 = .ok (.aload_n 0, 1) := by decide +kernel
theorem d11_wayRefusal_26 : decode b11_wayRefusal 26 = .ok (.getfield 60, 3) := by decide +kernel
theorem d11_wayRefusal_29 : decode b11_wayRefusal 29 = .ok (.iload_n 1, 1) := by decide +kernel
theorem d11_wayRefusal_30 : decode b11_wayRefusal 30 = .ok (.iload_n 2, 1) := by decide +kernel
theorem d11_wayRefusal_31 : decode b11_wayRefusal 31 = .ok (.invokevirtual 229, 3) := by decide +kernel
theorem d11_wayRefusal_34 : decode b11_wayRefusal 34 = .ok (.ifCond .eq 18, 3) := by decide +kernel
theorem d11_wayRefusal_37 : decode b11_wayRefusal 37 = .ok (.aload_n 0, 1) := by decide +kernel
theorem d11_wayRefusal_38 : decode b11_wayRefusal 38 = .ok (.getfield 60, 3) := by decide +kernel
theorem d11_wayRefusal_41 : decode b11_wayRefusal 41 = .ok (.iload_n 1, 1) := by decide +kernel
theorem d11_wayRefusal_42 : decode b11_wayRefusal 42 = .ok (.invokevirtual 331, 3) := by decide +kernel
theorem d11_wayRefusal_45 : decode b11_wayRefusal 45 = .ok (.ifCond .ne 7, 3) := by decide +kernel
theorem d11_wayRefusal_48 : decode b11_wayRefusal 48 = .ok (.iconst 0, 1) := by decide +kernel
theorem d11_wayRefusal_49 : decode b11_wayRefusal 49 = .ok (.goto 4, 3) := by decide +kernel
theorem d11_wayRefusal_52 : decode b11_wayRefusal 52 = .ok (.iconst (-1), 1) := by decide +kernel
theorem d11_wayRefusal_53 : decode b11_wayRefusal 53 = .ok (.ireturn, 1) := by decide +kernel
theorem ml_11_229 : Cond.methodLink cn_11 229 y2_areOne ∈ ce_cm := ce_cm_of (List.mem_of_getElem? (i := 904) (by decide +kernel)) (by decide +kernel)
def f11_wayRefusal (F : Nat) (x1 : Int32) (x2 : Int32) (h : Hp) : Option (Int32 × Hp) :=
  ce_nm ((h 0 2).toNatClampNeg) (fun k_1 => if ce_isNet k_1 then
    Option.bind (f5_hasNode F k_1 x1 h) (fun o5 =>
      if o5.1 = 0 then
        some ((-2 : Int32), o5.2)
      else
        ce_nm ((o5.2 0 2).toNatClampNeg) (fun k_12 => if ce_isNet k_12 then
          Option.bind (f5_hasNode F k_12 x2 o5.2) (fun o16 =>
            if o16.1 = 0 then
              some ((-2 : Int32), o16.2)
            else
              Option.bind (f2_areOne F x1 x2 o16.2) (fun o31 =>
                if o31.1 = 0 then
                  some ((-1 : Int32), o31.2)
                else
                  Option.bind (f2_hasLoop F x1 o31.2) (fun o42 =>
                    if o42.1 = 0 then
                      some ((0 : Int32), o42.2)
                    else
                      some ((-1 : Int32), o42.2))))
        else none))
  else none)
set_option maxRecDepth 20000 in
theorem c11_wayRefusal (l : Launch) (D : va_G) (ad : Nat → Nat) (cA : Nat → ClassId) (aK aV : Nat → Nat) (B0 : Nat) (hA : ce_Ad ad B0) (F : Nat) (x1 : Int32) (x2 : Int32)  (h : Hp) (r : Int32 × Hp) (e : f11_wayRefusal F x1 x2 h = some r) : ce_Ct l D ad cA B0 (ce_St aK aV B0) y11_wayRefusal b11_wayRefusal 3 (some .int) 3 63 0 0 [.ref (ad 0), .int x1, .int x2] h (some (.int r.1)) r.2 := by
  refine ce_enter hA (by decide) rfl (Nat.le_of_ble_eq_true rfl) (fun p e0 s m below meth c ls C hH hl => ?_)
  have hl : lv_has ls 3 [(0, .ref (ad 0)), (1, .int x1), (2, .int x2)] := hl
  have hx := C.1
  have hb := C.2.1
  have e : Option.bind _ some = some r := (congrArg (fun z => Option.bind z some) e).trans rfl
  unfold f11_wayRefusal at e
  refine lv_aload_n hx hb d11_wayRefusal_0 rfl (lv_at hl 0 rfl) ?_
  refine gf_11_26 C hH d11_wayRefusal_1 ?_
  obtain ⟨k_1, ek_1, e⟩ := ce_nmE e
  obtain ⟨hk_1, e⟩ := ce_gd e
  rw [← ek_1]
  refine lv_iload_n hx hb d11_wayRefusal_4 rfl (lv_at hl 1 rfl) ?_
  obtain ⟨o5, eo5, e⟩ := ce_bd e
  refine ce_callV (As := [.int x1]) (rest := []) C (ce_sok aK aV B0) hH (c5_hasNode l D ad cA aK aV B0 C.2.2.2.2.2.2.1 F k_1 x1 hk_1 h o5 eo5) (lk_Net hk_1).1 (lk_Net hk_1).2.choose_spec rfl rfl mc5_hasNode ml_11_179 mi5_hasNode ms5_hasNode mI_5 (n := 1) (by decide) rfl ⟨Nat.le_of_ble_eq_true rfl, Nat.le_of_ble_eq_true rfl⟩ ⟨Nat.le_of_ble_eq_true rfl, Nat.le_of_ble_eq_true rfl⟩ hl.1 rfl (Nat.le_of_ble_eq_true rfl) d11_wayRefusal_5 (fun H locs hH => ?_)
  refine W.eq (g2 := F0 m 8 ls [.int o5.1]) rfl ?_
  refine lv_if_eq (tgt := 22) hx hb d11_wayRefusal_8 (by decide) (fun hc8 => ?_) (fun hc8 => ?_)
  · have e := ce_if1 e hc8
    refine lv_bipush (v := (-2 : Int32)) hx hb d11_wayRefusal_22 (by decide) ?_
    exact ce_iretE C (ce_sok aK aV B0) hH e d11_wayRefusal_24
  · have e := ce_if0 e hc8
    refine lv_aload_n hx hb d11_wayRefusal_11 rfl (lv_at hl 0 rfl) ?_
    refine gf_11_26 C hH d11_wayRefusal_12 ?_
    obtain ⟨k_12, ek_12, e⟩ := ce_nmE e
    obtain ⟨hk_12, e⟩ := ce_gd e
    rw [← ek_12]
    refine lv_iload_n hx hb d11_wayRefusal_15 rfl (lv_at hl 2 rfl) ?_
    obtain ⟨o16, eo16, e⟩ := ce_bd e
    refine ce_callV (As := [.int x2]) (rest := []) C (ce_sok aK aV B0) hH (c5_hasNode l D ad cA aK aV B0 C.2.2.2.2.2.2.1 F k_12 x2 hk_12 o5.2 o16 eo16) (lk_Net hk_12).1 (lk_Net hk_12).2.choose_spec rfl rfl mc5_hasNode ml_11_179 mi5_hasNode ms5_hasNode mI_5 (n := 1) (by decide) rfl ⟨Nat.le_of_ble_eq_true rfl, Nat.le_of_ble_eq_true rfl⟩ ⟨Nat.le_of_ble_eq_true rfl, Nat.le_of_ble_eq_true rfl⟩ hl.1 rfl (Nat.le_of_ble_eq_true rfl) d11_wayRefusal_16 (fun H locs hH => ?_)
    refine W.eq (g2 := F0 m 19 ls [.int o16.1]) rfl ?_
    refine lv_if_ne (tgt := 25) hx hb d11_wayRefusal_19 (by decide) (fun hc19 => ?_) (fun hc19 => ?_)
    · have e := ce_if0 e hc19
      refine lv_aload_n hx hb d11_wayRefusal_25 rfl (lv_at hl 0 rfl) ?_
      refine gf_11_60 C hH d11_wayRefusal_26 ?_
      refine lv_iload_n hx hb d11_wayRefusal_29 rfl (lv_at hl 1 rfl) ?_
      refine lv_iload_n hx hb d11_wayRefusal_30 rfl (lv_at hl 2 rfl) ?_
      obtain ⟨o31, eo31, e⟩ := ce_bd e
      refine ce_callV (As := [.int x1, .int x2]) (rest := []) C (ce_sok aK aV B0) hH (c2_areOne l D ad cA aK aV B0 C.2.2.2.2.2.2.1 F x1 x2  o16.2 o31 eo31) lo_44.1 lo_44.2.choose_spec rfl rfl mc2_areOne ml_11_229 mi2_areOne ms2_areOne mI_2 (n := 2) (by decide) rfl ⟨Nat.le_of_ble_eq_true rfl, Nat.le_of_ble_eq_true rfl⟩ ⟨Nat.le_of_ble_eq_true rfl, Nat.le_of_ble_eq_true rfl⟩ hl.1 rfl (Nat.le_of_ble_eq_true rfl) d11_wayRefusal_31 (fun H locs hH => ?_)
      refine W.eq (g2 := F0 m 34 ls [.int o31.1]) rfl ?_
      refine lv_if_eq (tgt := 52) hx hb d11_wayRefusal_34 (by decide) (fun hc34 => ?_) (fun hc34 => ?_)
      · have e := ce_if1 e hc34
        refine lv_iconst (v := (-1 : Int32)) hx hb d11_wayRefusal_52 (by decide) ?_
        exact ce_iretE C (ce_sok aK aV B0) hH e d11_wayRefusal_53
      · have e := ce_if0 e hc34
        refine lv_aload_n hx hb d11_wayRefusal_37 rfl (lv_at hl 0 rfl) ?_
        refine gf_11_60 C hH d11_wayRefusal_38 ?_
        refine lv_iload_n hx hb d11_wayRefusal_41 rfl (lv_at hl 1 rfl) ?_
        obtain ⟨o42, eo42, e⟩ := ce_bd e
        refine ce_callV (As := [.int x1]) (rest := []) C (ce_sok aK aV B0) hH (c2_hasLoop l D ad cA aK aV B0 C.2.2.2.2.2.2.1 F x1  o31.2 o42 eo42) lo_44.1 lo_44.2.choose_spec rfl rfl mc2_hasLoop ml_11_331 mi2_hasLoop ms2_hasLoop mI_2 (n := 1) (by decide) rfl ⟨Nat.le_of_ble_eq_true rfl, Nat.le_of_ble_eq_true rfl⟩ ⟨Nat.le_of_ble_eq_true rfl, Nat.le_of_ble_eq_true rfl⟩ hl.1 rfl (Nat.le_of_ble_eq_true rfl) d11_wayRefusal_42 (fun H locs hH => ?_)
        refine W.eq (g2 := F0 m 45 ls [.int o42.1]) rfl ?_
        refine lv_if_ne (tgt := 52) hx hb d11_wayRefusal_45 (by decide) (fun hc45 => ?_) (fun hc45 => ?_)
        · have e := ce_if0 e hc45
          refine lv_iconst (v := (-1 : Int32)) hx hb d11_wayRefusal_52 (by decide) ?_
          exact ce_iretE C (ce_sok aK aV B0) hH e d11_wayRefusal_53
        · have e := ce_if1 e hc45
          refine lv_iconst (v := (0 : Int32)) hx hb d11_wayRefusal_48 (by decide) ?_
          refine lv_goto (tgt := 53) hx hb d11_wayRefusal_49 (by decide) ?_
          exact ce_iretE C (ce_sok aK aV B0) hH e d11_wayRefusal_53
    · have e := ce_if1 e hc19
      refine lv_bipush (v := (-2 : Int32)) hx hb d11_wayRefusal_22 (by decide) ?_
      exact ce_iretE C (ce_sok aK aV B0) hH e d11_wayRefusal_24
abbrev b11_way : ByteArray := prog_1_method_19_code
def y11_way : MethodName := ⟨cn_11, "way", "(II)I"⟩
theorem d11_way_0 : decode b11_way 0 = .ok (.aload_n 0, 1) := by decide +kernel
theorem d11_way_1 : decode b11_way 1 = .ok (.iload_n 1, 1) := by decide +kernel
theorem d11_way_2 : decode b11_way 2 = .ok (.iload_n 2, 1) := by decide +kernel
theorem d11_way_3 : decode b11_way 3 = .ok (.invokevirtual 209, 3) := by decide +kernel
theorem d11_way_6 : decode b11_way 6 = .ok (.istore_n 3, 1) := by decide +kernel
theorem d11_way_7 : decode b11_way 7 = .ok (.iload_n 3, 1) := by decide +kernel
theorem d11_way_8 : decode b11_way 8 = .ok (.ifCond .eq 5, 3) := by decide +kernel
theorem d11_way_11 : decode b11_way 11 = .ok (.iload_n 3, 1) := by decide +kernel
theorem d11_way_12 : decode b11_way 12 = .ok (.ireturn, 1) := by decide +kernel
theorem d11_way_13 : decode b11_way 13 = .ok (.aload_n 0, 1) := by decide +kernel
theorem d11_way_14 : decode b11_way 14 = .ok (.getfield 53, 3) := by decide +kernel
theorem d11_way_17 : decode b11_way 17 = .ok (.aload_n 0, 1) := by decide +kernel
theorem d11_way_18 : decode b11_way 18 = .ok (.getfield 26, 3) := by decide +kernel
theorem d11_way_21 : decode b11_way 21 = .ok (.iload_n 1, 1) := by decide +kernel
theorem d11_way_22 : decode b11_way 22 = .ok (.iconst (-1), 1) := by decide +kernel
theorem d11_way_23 : decode b11_way 23 = .ok (.invokevirtual 212, 3) := by decide +kernel
theorem d11_way_26 : decode b11_way 26 = .ok (.aload_n 0, 1) := by decide +kernel
theorem d11_way_27 : decode b11_way 27 = .ok (.getfield 53, 3) := by decide +kernel
theorem d11_way_30 : decode b11_way 30 = .ok (.getfield 216, 3) := by decide +kernel
theorem d11_way_33 : decode b11_way 33 = .ok (.iload_n 2, 1) := by decide +kernel
theorem d11_way_34 : decode b11_way 34 = .ok (.iaload, 1) := by decide +kernel
theorem d11_way_35 : decode b11_way 35 = .ok (.ireturn, 1) := by decide +kernel
theorem fl_11_216 : Cond.fieldLink cn_11 216 (ft_10 2).1 (ft_10 2).2.1 (ft_10 2).2.2.1 ∈ ce_cm := ce_cm_of (List.mem_of_getElem? (i := 337) (by decide +kernel)) (by decide +kernel)
theorem gf_11_216 (C : ce_Cx p s m args c meth cc nL ret cn_11 D ad cA B0 (ce_St aK aV B0)) (hH : ce_H D ad cA B0 X s h H locs) (hdg : decode cc pc = .ok (.getfield 216, 3)) (kk : W p l e0 R s m args below meth c H locs cells slots Q (F0 m (pc + 3) ls (.ref (ad 42) :: rest))) : W p l e0 R s m args below meth c H locs cells slots Q (F0 m pc ls (.ref (ad 40) :: rest)) := by
  exact ce_get C hH (k := 40) (ci := 10) (j := 2) (N := 4) (sj := some (some 42)) (by decide) rfl rfl fw_10 (by decide) fl_11_216 rfl hdg kk
theorem ml_11_212 : Cond.methodLink cn_11 212 y10_start ∈ ce_cm := ce_cm_of (List.mem_of_getElem? (i := 905) (by decide +kernel)) (by decide +kernel)
theorem mc11_wayRefusal : Cond.code y11_wayRefusal b11_wayRefusal 3 (some .int) ∈ ce_cm := ce_cm_of (List.mem_of_getElem? (i := 903) (by decide +kernel)) (by decide +kernel)
theorem ml_11_209 : Cond.methodLink cn_11 209 y11_wayRefusal ∈ ce_cm := ce_cm_of (List.mem_of_getElem? (i := 900) (by decide +kernel)) (by decide +kernel)
theorem mi11_wayRefusal : Cond.instanceMethod y11_wayRefusal ∈ ce_cm := ce_cm_of (List.mem_of_getElem? (i := 902) (by decide +kernel)) (by decide +kernel)
theorem ms11_wayRefusal : Cond.selects cn_11 y11_wayRefusal y11_wayRefusal ∈ ce_cm := ce_cm_of (List.mem_of_getElem? (i := 21) (by decide +kernel)) (by decide +kernel)
def f11_way (F : Nat) (x1 : Int32) (x2 : Int32) (h : Hp) : Option (Int32 × Hp) :=
  Option.bind (f11_wayRefusal F x1 x2 h) (fun o3 =>
    if o3.1 = 0 then
      ce_nm ((o3.2 0 2).toNatClampNeg) (fun k_18 => if ce_isNet k_18 then
        Option.bind (f10_start F k_18 x1 (-1 : Int32) o3.2) (fun o23 =>
          if ce_in x2 10 = true then
            some (o23 42 (x2).toNatClampNeg, o23)
          else none)
      else none)
    else
      some (o3.1, o3.2))
set_option maxRecDepth 20000 in
theorem c11_way (l : Launch) (D : va_G) (ad : Nat → Nat) (cA : Nat → ClassId) (aK aV : Nat → Nat) (B0 : Nat) (hA : ce_Ad ad B0) (F : Nat) (x1 : Int32) (x2 : Int32)  (h : Hp) (r : Int32 × Hp) (e : f11_way F x1 x2 h = some r) : ce_Ct l D ad cA B0 (ce_St aK aV B0) y11_way b11_way 4 (some .int) 4 85 0 0 [.ref (ad 0), .int x1, .int x2] h (some (.int r.1)) r.2 := by
  refine ce_enter hA (by decide) rfl (Nat.le_of_ble_eq_true rfl) (fun p e0 s m below meth c ls C hH hl => ?_)
  have hl : lv_has ls 4 [(0, .ref (ad 0)), (1, .int x1), (2, .int x2)] := hl
  have hx := C.1
  have hb := C.2.1
  have e : Option.bind _ some = some r := (congrArg (fun z => Option.bind z some) e).trans rfl
  unfold f11_way at e
  refine lv_aload_n hx hb d11_way_0 rfl (lv_at hl 0 rfl) ?_
  refine lv_iload_n hx hb d11_way_1 rfl (lv_at hl 1 rfl) ?_
  refine lv_iload_n hx hb d11_way_2 rfl (lv_at hl 2 rfl) ?_
  obtain ⟨o3, eo3, e⟩ := ce_bd e
  refine ce_callV (As := [.int x1, .int x2]) (rest := []) C (ce_sok aK aV B0) hH (c11_wayRefusal l D ad cA aK aV B0 C.2.2.2.2.2.2.1 F x1 x2  h o3 eo3) lo_0.1 lo_0.2.choose_spec rfl rfl mc11_wayRefusal ml_11_209 mi11_wayRefusal ms11_wayRefusal mI_11 (n := 2) (by decide) rfl ⟨Nat.le_of_ble_eq_true rfl, Nat.le_of_ble_eq_true rfl⟩ ⟨Nat.le_of_ble_eq_true rfl, Nat.le_of_ble_eq_true rfl⟩ hl.1 rfl (Nat.le_of_ble_eq_true rfl) d11_way_3 (fun H locs hH => ?_)
  refine W.eq (g2 := F0 m 6 ls [.int o3.1]) rfl ?_
  refine lv_istore_n (lv' := [(3, .int o3.1), (0, .ref (ad 0)), (1, .int x1), (2, .int x2)]) hx hb d11_way_6 rfl hl (by decide) rfl (fun ls hl => ?_)
  refine lv_iload_n hx hb d11_way_7 rfl (lv_at hl 0 rfl) ?_
  refine lv_if_eq (tgt := 13) hx hb d11_way_8 (by decide) (fun hc8 => ?_) (fun hc8 => ?_)
  · have e := ce_if1 e hc8
    refine lv_aload_n hx hb d11_way_13 rfl (lv_at hl 1 rfl) ?_
    refine gf_11_53 C hH d11_way_14 ?_
    refine lv_aload_n hx hb d11_way_17 rfl (lv_at hl 1 rfl) ?_
    refine gf_11_26 C hH d11_way_18 ?_
    obtain ⟨k_18, ek_18, e⟩ := ce_nmE e
    obtain ⟨hk_18, e⟩ := ce_gd e
    rw [← ek_18]
    refine lv_iload_n hx hb d11_way_21 rfl (lv_at hl 2 rfl) ?_
    refine lv_iconst (v := (-1 : Int32)) hx hb d11_way_22 (by decide) ?_
    obtain ⟨o23, eo23, e⟩ := ce_bd e
    refine ce_callV (As := [.ref (ad k_18), .int x1, .int (-1 : Int32)]) (rest := []) C (ce_sok aK aV B0) hH (c10_start l D ad cA aK aV B0 C.2.2.2.2.2.2.1 F k_18 x1 (-1 : Int32) hk_18 o3.2 o23 eo23) lo_40.1 lo_40.2.choose_spec rfl rfl mc10_start ml_11_212 mi10_start ms10_start mI_10 (n := 3) (by decide) rfl ⟨Nat.le_of_ble_eq_true rfl, Nat.le_of_ble_eq_true rfl⟩ ⟨Nat.le_of_ble_eq_true rfl, Nat.le_of_ble_eq_true rfl⟩ hl.1 rfl (Nat.le_of_ble_eq_true rfl) d11_way_23 (fun H locs hH => ?_)
    refine W.eq (g2 := F0 m 26 ls []) rfl ?_
    refine lv_aload_n hx hb d11_way_26 rfl (lv_at hl 1 rfl) ?_
    refine gf_11_53 C hH d11_way_27 ?_
    refine gf_11_216 C hH d11_way_30 ?_
    refine lv_iload_n hx hb d11_way_33 rfl (lv_at hl 3 rfl) ?_
    obtain ⟨hi34, e⟩ := ce_gd e
    refine ce_iald C hH lc_42.1 lc_42.2 (ce_in_vp hi34) d11_way_34 ?_
    exact ce_iretE C (ce_sok aK aV B0) hH e d11_way_35
  · have e := ce_if0 e hc8
    refine lv_iload_n hx hb d11_way_11 rfl (lv_at hl 0 rfl) ?_
    exact ce_iretE C (ce_sok aK aV B0) hH e d11_way_12
abbrev b11_hops : ByteArray := prog_1_method_20_code
def y11_hops : MethodName := ⟨cn_11, "hops", "(II)I"⟩
theorem d11_hops_0 : decode b11_hops 0 = .ok (.aload_n 0, 1) := by decide +kernel
theorem d11_hops_1 : decode b11_hops 1 = .ok (.iload_n 1, 1) := by decide +kernel
theorem d11_hops_2 : decode b11_hops 2 = .ok (.iload_n 2, 1) := by decide +kernel
theorem d11_hops_3 : decode b11_hops 3 = .ok (.invokevirtual 209, 3) := by decide +kernel
theorem d11_hops_6 : decode b11_hops 6 = .ok (.istore_n 3, 1) := by decide +kernel
theorem d11_hops_7 : decode b11_hops 7 = .ok (.iload_n 3, 1) := by decide +kernel
theorem d11_hops_8 : decode b11_hops 8 = .ok (.ifCond .eq 5, 3) := by decide +kernel
theorem d11_hops_11 : decode b11_hops 11 = .ok (.iload_n 3, 1) := by decide +kernel
theorem d11_hops_12 : decode b11_hops 12 = .ok (.ireturn, 1) := by decide +kernel
theorem d11_hops_13 : decode b11_hops 13 = .ok (.aload_n 0, 1) := by decide +kernel
theorem d11_hops_14 : decode b11_hops 14 = .ok (.getfield 53, 3) := by decide +kernel
theorem d11_hops_17 : decode b11_hops 17 = .ok (.aload_n 0, 1) := by decide +kernel
theorem d11_hops_18 : decode b11_hops 18 = .ok (.getfield 26, 3) := by decide +kernel
theorem d11_hops_21 : decode b11_hops 21 = .ok (.iload_n 1, 1) := by decide +kernel
theorem d11_hops_22 : decode b11_hops 22 = .ok (.iconst (-1), 1) := by decide +kernel
theorem d11_hops_23 : decode b11_hops 23 = .ok (.invokevirtual 212, 3) := by decide +kernel
theorem d11_hops_26 : decode b11_hops 26 = .ok (.aload_n 0, 1) := by decide +kernel
theorem d11_hops_27 : decode b11_hops 27 = .ok (.getfield 53, 3) := by decide +kernel
theorem d11_hops_30 : decode b11_hops 30 = .ok (.getfield 219, 3) := by decide +kernel
theorem d11_hops_33 : decode b11_hops 33 = .ok (.iload_n 2, 1) := by decide +kernel
theorem d11_hops_34 : decode b11_hops 34 = .ok (.iaload, 1) := by decide +kernel
theorem d11_hops_35 : decode b11_hops 35 = .ok (.ireturn, 1) := by decide +kernel
theorem fl_11_219 : Cond.fieldLink cn_11 219 (ft_10 3).1 (ft_10 3).2.1 (ft_10 3).2.2.1 ∈ ce_cm := ce_cm_of (List.mem_of_getElem? (i := 339) (by decide +kernel)) (by decide +kernel)
theorem gf_11_219 (C : ce_Cx p s m args c meth cc nL ret cn_11 D ad cA B0 (ce_St aK aV B0)) (hH : ce_H D ad cA B0 X s h H locs) (hdg : decode cc pc = .ok (.getfield 219, 3)) (kk : W p l e0 R s m args below meth c H locs cells slots Q (F0 m (pc + 3) ls (.ref (ad 43) :: rest))) : W p l e0 R s m args below meth c H locs cells slots Q (F0 m pc ls (.ref (ad 40) :: rest)) := by
  exact ce_get C hH (k := 40) (ci := 10) (j := 3) (N := 4) (sj := some (some 43)) (by decide) rfl rfl fw_10 (by decide) fl_11_219 rfl hdg kk
def f11_hops (F : Nat) (x1 : Int32) (x2 : Int32) (h : Hp) : Option (Int32 × Hp) :=
  Option.bind (f11_wayRefusal F x1 x2 h) (fun o3 =>
    if o3.1 = 0 then
      ce_nm ((o3.2 0 2).toNatClampNeg) (fun k_18 => if ce_isNet k_18 then
        Option.bind (f10_start F k_18 x1 (-1 : Int32) o3.2) (fun o23 =>
          if ce_in x2 10 = true then
            some (o23 43 (x2).toNatClampNeg, o23)
          else none)
      else none)
    else
      some (o3.1, o3.2))
set_option maxRecDepth 20000 in
theorem c11_hops (l : Launch) (D : va_G) (ad : Nat → Nat) (cA : Nat → ClassId) (aK aV : Nat → Nat) (B0 : Nat) (hA : ce_Ad ad B0) (F : Nat) (x1 : Int32) (x2 : Int32)  (h : Hp) (r : Int32 × Hp) (e : f11_hops F x1 x2 h = some r) : ce_Ct l D ad cA B0 (ce_St aK aV B0) y11_hops b11_hops 4 (some .int) 4 85 0 0 [.ref (ad 0), .int x1, .int x2] h (some (.int r.1)) r.2 := by
  refine ce_enter hA (by decide) rfl (Nat.le_of_ble_eq_true rfl) (fun p e0 s m below meth c ls C hH hl => ?_)
  have hl : lv_has ls 4 [(0, .ref (ad 0)), (1, .int x1), (2, .int x2)] := hl
  have hx := C.1
  have hb := C.2.1
  have e : Option.bind _ some = some r := (congrArg (fun z => Option.bind z some) e).trans rfl
  unfold f11_hops at e
  refine lv_aload_n hx hb d11_hops_0 rfl (lv_at hl 0 rfl) ?_
  refine lv_iload_n hx hb d11_hops_1 rfl (lv_at hl 1 rfl) ?_
  refine lv_iload_n hx hb d11_hops_2 rfl (lv_at hl 2 rfl) ?_
  obtain ⟨o3, eo3, e⟩ := ce_bd e
  refine ce_callV (As := [.int x1, .int x2]) (rest := []) C (ce_sok aK aV B0) hH (c11_wayRefusal l D ad cA aK aV B0 C.2.2.2.2.2.2.1 F x1 x2  h o3 eo3) lo_0.1 lo_0.2.choose_spec rfl rfl mc11_wayRefusal ml_11_209 mi11_wayRefusal ms11_wayRefusal mI_11 (n := 2) (by decide) rfl ⟨Nat.le_of_ble_eq_true rfl, Nat.le_of_ble_eq_true rfl⟩ ⟨Nat.le_of_ble_eq_true rfl, Nat.le_of_ble_eq_true rfl⟩ hl.1 rfl (Nat.le_of_ble_eq_true rfl) d11_hops_3 (fun H locs hH => ?_)
  refine W.eq (g2 := F0 m 6 ls [.int o3.1]) rfl ?_
  refine lv_istore_n (lv' := [(3, .int o3.1), (0, .ref (ad 0)), (1, .int x1), (2, .int x2)]) hx hb d11_hops_6 rfl hl (by decide) rfl (fun ls hl => ?_)
  refine lv_iload_n hx hb d11_hops_7 rfl (lv_at hl 0 rfl) ?_
  refine lv_if_eq (tgt := 13) hx hb d11_hops_8 (by decide) (fun hc8 => ?_) (fun hc8 => ?_)
  · have e := ce_if1 e hc8
    refine lv_aload_n hx hb d11_hops_13 rfl (lv_at hl 1 rfl) ?_
    refine gf_11_53 C hH d11_hops_14 ?_
    refine lv_aload_n hx hb d11_hops_17 rfl (lv_at hl 1 rfl) ?_
    refine gf_11_26 C hH d11_hops_18 ?_
    obtain ⟨k_18, ek_18, e⟩ := ce_nmE e
    obtain ⟨hk_18, e⟩ := ce_gd e
    rw [← ek_18]
    refine lv_iload_n hx hb d11_hops_21 rfl (lv_at hl 2 rfl) ?_
    refine lv_iconst (v := (-1 : Int32)) hx hb d11_hops_22 (by decide) ?_
    obtain ⟨o23, eo23, e⟩ := ce_bd e
    refine ce_callV (As := [.ref (ad k_18), .int x1, .int (-1 : Int32)]) (rest := []) C (ce_sok aK aV B0) hH (c10_start l D ad cA aK aV B0 C.2.2.2.2.2.2.1 F k_18 x1 (-1 : Int32) hk_18 o3.2 o23 eo23) lo_40.1 lo_40.2.choose_spec rfl rfl mc10_start ml_11_212 mi10_start ms10_start mI_10 (n := 3) (by decide) rfl ⟨Nat.le_of_ble_eq_true rfl, Nat.le_of_ble_eq_true rfl⟩ ⟨Nat.le_of_ble_eq_true rfl, Nat.le_of_ble_eq_true rfl⟩ hl.1 rfl (Nat.le_of_ble_eq_true rfl) d11_hops_23 (fun H locs hH => ?_)
    refine W.eq (g2 := F0 m 26 ls []) rfl ?_
    refine lv_aload_n hx hb d11_hops_26 rfl (lv_at hl 1 rfl) ?_
    refine gf_11_53 C hH d11_hops_27 ?_
    refine gf_11_219 C hH d11_hops_30 ?_
    refine lv_iload_n hx hb d11_hops_33 rfl (lv_at hl 3 rfl) ?_
    obtain ⟨hi34, e⟩ := ce_gd e
    refine ce_iald C hH lc_43.1 lc_43.2 (ce_in_vp hi34) d11_hops_34 ?_
    exact ce_iretE C (ce_sok aK aV B0) hH e d11_hops_35
  · have e := ce_if0 e hc8
    refine lv_iload_n hx hb d11_hops_11 rfl (lv_at hl 0 rfl) ?_
    exact ce_iretE C (ce_sok aK aV B0) hH e d11_hops_12
abbrev b11_longestWithout : ByteArray := prog_1_method_45_code
def y11_longestWithout : MethodName := ⟨cn_11, "longestWithout", "(II)I"⟩
theorem d11_longestWithout_0 : decode b11_longestWithout 0 = .ok (.iconst 0, 1) := by decide +kernel
theorem d11_longestWithout_1 : decode b11_longestWithout 1 = .ok (.istore_n 3, 1) := by decide +kernel
theorem d11_longestWithout_2 : decode b11_longestWithout 2 = .ok (.iconst 0, 1) := by decide +kernel
theorem d11_longestWithout_3 : decode b11_longestWithout 3 = .ok (.istore 4, 2) := by decide +kernel
theorem d11_longestWithout_5 : decode b11_longestWithout 5 = .ok (.iload 4, 2) := by decide +kernel
theorem d11_longestWithout_7 : decode b11_longestWithout 7 = .ok (.aload_n 0, 1) := by decide +kernel
theorem d11_longestWithout_8 : decode b11_longestWithout 8 = .ok (.getfield 26, 3) := by decide +kernel
theorem d11_longestWithout_11 : decode b11_longestWithout 11 = .ok (.getfield 125, 3) := by decide +kernel
theorem d11_longestWithout_14 : decode b11_longestWithout 14 = .ok (.if_icmp .ge 48, 3) := by decide +kernel
theorem d11_longestWithout_17 : decode b11_longestWithout 17 = .ok (.aload_n 0, 1) := by decide +kernel
theorem d11_longestWithout_18 : decode b11_longestWithout 18 = .ok (.getfield 60, 3) := by decide +kernel
theorem d11_longestWithout_21 : decode b11_longestWithout 21 = .ok (.iload_n 1, 1) := by decide +kernel
theorem d11_longestWithout_22 : decode b11_longestWithout 22 = .ok (.iload 4, 2) := by decide +kernel
theorem d11_longestWithout_24 : decode b11_longestWithout 24 = .ok (.invokevirtual 229, 3) := by decide +kernel
theorem d11_longestWithout_27 : decode b11_longestWithout 27 = .ok (.ifCond .eq 29, 3) := by decide +kernel
theorem d11_longestWithout_30 : decode b11_longestWithout 30 = .ok (.aload_n 0, 1) := by decide +kernel
theorem d11_longestWithout_31 : decode b11_longestWithout 31 = .ok (.getfield 53, 3) := by decide +kernel
theorem d11_longestWithout_34 : decode b11_longestWithout 34 = .ok (.aload_n 0, 1) := by decide +kernel
theorem d11_longestWithout_35 : decode b11_longestWithout 35 = .ok (.getfield 26, 3) := by decide +kernel
theorem d11_longestWithout_38 : decode b11_longestWithout 38 = .ok (.iload 4, 2) := by decide +kernel
theorem d11_longestWithout_40 : decode b11_longestWithout 40 = .ok (.iload_n 2, 1) := by decide +kernel
theorem d11_longestWithout_41 : decode b11_longestWithout 41 = .ok (.invokevirtual 212, 3) := by decide +kernel
theorem d11_longestWithout_44 : decode b11_longestWithout 44 = .ok (.iload_n 3, 1) := by decide +kernel
theorem d11_longestWithout_45 : decode b11_longestWithout 45 = .ok (.aload_n 0, 1) := by decide +kernel
theorem d11_longestWithout_46 : decode b11_longestWithout 46 = .ok (.getfield 53, 3) := by decide +kernel
theorem d11_longestWithout_49 : decode b11_longestWithout 49 = .ok (.invokevirtual 232, 3) := by decide +kernel
theorem d11_longestWithout_52 : decode b11_longestWithout 52 = .ok (.invokestatic 257, 3) := by decide +kernel
theorem d11_longestWithout_55 : decode b11_longestWithout 55 = .ok (.istore_n 3, 1) := by decide +kernel
theorem d11_longestWithout_56 : decode b11_longestWithout 56 = .ok (.iinc 4 1, 3) := by decide +kernel
theorem d11_longestWithout_59 : decode b11_longestWithout 59 = .ok (.goto (-54), 3) := by decide +kernel
theorem d11_longestWithout_62 : decode b11_longestWithout 62 = .ok (.iload_n 3, 1) := by decide +kernel
theorem d11_longestWithout_63 : decode b11_longestWithout 63 = .ok (.ireturn, 1) := by decide +kernel
theorem ml_11_257 : Cond.methodLink cn_11 257 Lib.Math.max.name ∈ ce_cm := ce_cm_of (List.mem_of_getElem? (i := 923) (by decide +kernel)) (by decide +kernel)
theorem mc10_farthest : Cond.code y10_farthest b10_farthest 3 (some .int) ∈ ce_cm := ce_cm_of (List.mem_of_getElem? (i := 921) (by decide +kernel)) (by decide +kernel)
theorem ml_11_232 : Cond.methodLink cn_11 232 y10_farthest ∈ ce_cm := ce_cm_of (List.mem_of_getElem? (i := 918) (by decide +kernel)) (by decide +kernel)
theorem mi10_farthest : Cond.instanceMethod y10_farthest ∈ ce_cm := ce_cm_of (List.mem_of_getElem? (i := 919) (by decide +kernel)) (by decide +kernel)
theorem ms10_farthest : Cond.selects cn_10 y10_farthest y10_farthest ∈ ce_cm := ce_cm_of (List.mem_of_getElem? (i := 920) (by decide +kernel)) (by decide +kernel)
def f11_longestWithout_b5 (F : Nat) (x1 : Int32) (x2 : Int32) (x3 : Int32) (x4 : Int32) (h : Hp) : Option ((Int32 × Int32 × Hp) ⊕ (Int32 × Hp)) :=
  ce_nm ((h 0 2).toNatClampNeg) (fun k_8 => if ce_isNet k_8 then
    if (h k_8 3) ≤ x4 then
      some (.inr (x3, h))
    else
      Option.bind (f2_areOne F x1 x4 h) (fun o24 =>
        if o24.1 = 0 then
          some (.inl (x3, x4 + (1 : Int32), o24.2))
        else
          ce_nm ((o24.2 0 2).toNatClampNeg) (fun k_35 => if ce_isNet k_35 then
            Option.bind (f10_start F k_35 x4 x2 o24.2) (fun o41 =>
              Option.bind (f10_farthest F  o41) (fun o49 =>
                some (.inl ((if x3 < o49.1 then o49.1 else x3), x4 + (1 : Int32), o49.2))))
          else none))
  else none)
set_option maxRecDepth 20000 in
theorem l11_longestWithout_5 (C : ce_Cx p s m args c meth b11_longestWithout 5 (some .int) cn_11 D ad cA B0 (ce_St aK aV B0)) (F : Nat) (x1 : Int32) (x2 : Int32)  (r : Int32 × Hp) (g : (Int32 × Hp) → Option (Int32 × Hp)) (hx : ∀ (x3 : Int32) (h : Hp) (H : Heap) (locs : List Loc) (ls : Array Slot), ce_H D ad cA B0 [] s h H locs → lv_has ls 5 [(3, .int x3)] → g (x3, h) = some r → W p l e0 { frames := 3, cells := 0, slots := 0, locals := 73 } s m args below meth c H locs 0 0 (MQ below (ce_Q D ad cA B0 (ce_St aK aV B0) (some (.int r.1)) r.2) args s 0 0 (fun q => B0 ≤ q)) (F0 m 62 ls [])) : ∀ (n : Nat) (x3 : Int32) (x4 : Int32) (h : Hp) (H : Heap) (locs : List Loc) (ls : Array Slot), ce_H D ad cA B0 [] s h H locs → lv_has ls 5 [(0, .ref (ad 0)), (1, .int x1), (2, .int x2), (3, .int x3), (4, .int x4)] → Option.bind (ce_it (fun (st : Int32 × Int32 × Hp) => f11_longestWithout_b5 F x1 x2 st.1 st.2.1 st.2.2) n (x3, x4, h)) g = some r → W p l e0 { frames := 3, cells := 0, slots := 0, locals := 73 } s m args below meth c H locs 0 0 (MQ below (ce_Q D ad cA B0 (ce_St aK aV B0) (some (.int r.1)) r.2) args s 0 0 (fun q => B0 ≤ q)) (F0 m 5 ls []) := by
  intro n
  induction n with
  | zero =>
    intro x3 x4 h H locs ls hH hl e
    exact absurd e (fun z => by cases z)
  | succ n ih =>
    intro x3 x4 h H locs ls hH hl e
    have hx9 := C.1
    have hb := C.2.1
    have e : Option.bind (f11_longestWithout_b5 F x1 x2 x3 x4 h) _ = some r := ce_it_bd e
    unfold f11_longestWithout_b5 at e
    refine lv_iload hx9 hb d11_longestWithout_5 (lv_at hl 4 rfl) ?_
    refine lv_aload_n hx9 hb d11_longestWithout_7 rfl (lv_at hl 0 rfl) ?_
    refine gf_11_26 C hH d11_longestWithout_8 ?_
    obtain ⟨k_8, ek_8, e⟩ := ce_nmE e
    obtain ⟨hk_8, e⟩ := ce_gd e
    rw [← ek_8]
    refine gf_11_125 C hH hk_8 d11_longestWithout_11 ?_
    refine lv_icmp_ge (tgt := 62) hx9 hb d11_longestWithout_14 (by decide) (fun hc14 => ?_) (fun hc14 => ?_)
    · have e := ce_if1 e hc14
      exact hx x3 h _ _ _ hH (lv_sub hl [3] rfl) e
    · have e := ce_if0 e hc14
      refine lv_aload_n hx9 hb d11_longestWithout_17 rfl (lv_at hl 0 rfl) ?_
      refine gf_11_60 C hH d11_longestWithout_18 ?_
      refine lv_iload_n hx9 hb d11_longestWithout_21 rfl (lv_at hl 1 rfl) ?_
      refine lv_iload hx9 hb d11_longestWithout_22 (lv_at hl 4 rfl) ?_
      obtain ⟨o24, eo24, e⟩ := ce_bd e
      refine ce_callV (As := [.int x1, .int x4]) (rest := []) C (ce_sok aK aV B0) hH (c2_areOne l D ad cA aK aV B0 C.2.2.2.2.2.2.1 F x1 x4  h o24 eo24) lo_44.1 lo_44.2.choose_spec rfl rfl mc2_areOne ml_11_229 mi2_areOne ms2_areOne mI_2 (n := 2) (by decide) rfl ⟨Nat.le_of_ble_eq_true rfl, Nat.le_of_ble_eq_true rfl⟩ ⟨Nat.le_of_ble_eq_true rfl, Nat.le_of_ble_eq_true rfl⟩ hl.1 rfl (Nat.le_of_ble_eq_true rfl) d11_longestWithout_24 (fun H locs hH => ?_)
      refine W.eq (g2 := F0 m 27 ls [.int o24.1]) rfl ?_
      refine lv_if_eq (tgt := 56) hx9 hb d11_longestWithout_27 (by decide) (fun hc27 => ?_) (fun hc27 => ?_)
      · have e := ce_if1 e hc27
        refine lv_iinc (v := x4 + (1 : Int32)) (lv' := [(4, .int (x4 + (1 : Int32))), (0, .ref (ad 0)), (1, .int x1), (2, .int x2), (3, .int x3)]) hx9 hb d11_longestWithout_56 hl (k := 4) rfl rfl (by decide) rfl (fun ls hl => ?_)
        refine lv_goto (tgt := 5) hx9 hb d11_longestWithout_59 (by decide) ?_
        exact ih x3 (x4 + (1 : Int32)) o24.2 _ _ _ hH (lv_sub hl [1, 2, 3, 4, 0] rfl) e
      · have e := ce_if0 e hc27
        refine lv_aload_n hx9 hb d11_longestWithout_30 rfl (lv_at hl 0 rfl) ?_
        refine gf_11_53 C hH d11_longestWithout_31 ?_
        refine lv_aload_n hx9 hb d11_longestWithout_34 rfl (lv_at hl 0 rfl) ?_
        refine gf_11_26 C hH d11_longestWithout_35 ?_
        obtain ⟨k_35, ek_35, e⟩ := ce_nmE e
        obtain ⟨hk_35, e⟩ := ce_gd e
        rw [← ek_35]
        refine lv_iload hx9 hb d11_longestWithout_38 (lv_at hl 4 rfl) ?_
        refine lv_iload_n hx9 hb d11_longestWithout_40 rfl (lv_at hl 2 rfl) ?_
        obtain ⟨o41, eo41, e⟩ := ce_bd e
        refine ce_callV (As := [.ref (ad k_35), .int x4, .int x2]) (rest := []) C (ce_sok aK aV B0) hH (c10_start l D ad cA aK aV B0 C.2.2.2.2.2.2.1 F k_35 x4 x2 hk_35 o24.2 o41 eo41) lo_40.1 lo_40.2.choose_spec rfl rfl mc10_start ml_11_212 mi10_start ms10_start mI_10 (n := 3) (by decide) rfl ⟨Nat.le_of_ble_eq_true rfl, Nat.le_of_ble_eq_true rfl⟩ ⟨Nat.le_of_ble_eq_true rfl, Nat.le_of_ble_eq_true rfl⟩ hl.1 rfl (Nat.le_of_ble_eq_true rfl) d11_longestWithout_41 (fun H locs hH => ?_)
        refine W.eq (g2 := F0 m 44 ls []) rfl ?_
        refine lv_iload_n hx9 hb d11_longestWithout_44 rfl (lv_at hl 3 rfl) ?_
        refine lv_aload_n hx9 hb d11_longestWithout_45 rfl (lv_at hl 0 rfl) ?_
        refine gf_11_53 C hH d11_longestWithout_46 ?_
        obtain ⟨o49, eo49, e⟩ := ce_bd e
        refine ce_callV (As := []) (rest := [.int x3]) C (ce_sok aK aV B0) hH (c10_farthest l D ad cA aK aV B0 C.2.2.2.2.2.2.1 F   o41 o49 eo49) lo_40.1 lo_40.2.choose_spec rfl rfl mc10_farthest ml_11_232 mi10_farthest ms10_farthest mI_10 (n := 0) (by decide) rfl ⟨Nat.le_of_ble_eq_true rfl, Nat.le_of_ble_eq_true rfl⟩ ⟨Nat.le_of_ble_eq_true rfl, Nat.le_of_ble_eq_true rfl⟩ hl.1 rfl (Nat.le_of_ble_eq_true rfl) d11_longestWithout_49 (fun H locs hH => ?_)
        refine W.eq (g2 := F0 m 52 ls [.int o49.1, .int x3]) rfl ?_
        refine va_mmax hx9 hb (C.2.2.1.trans hl.1.symm) C.2.2.2.1 (C.2.2.2.2.1 _ ml_11_257) (C.2.2.2.2.1 _ mt_Mmax) (C.2.2.2.2.1 _ mI_M) (C.2.2.2.2.1 _ mc_Mmax) (Nat.le_of_ble_eq_true rfl) (Nat.le_of_ble_eq_true rfl) (Nat.le_of_ble_eq_true rfl) (Nat.le_of_ble_eq_true rfl) d11_longestWithout_52 ?_
        refine lv_istore_n (lv' := [(3, .int (if x3 < o49.1 then o49.1 else x3)), (0, .ref (ad 0)), (1, .int x1), (2, .int x2), (4, .int x4)]) hx9 hb d11_longestWithout_55 rfl hl (by decide) rfl (fun ls hl => ?_)
        refine lv_iinc (v := x4 + (1 : Int32)) (lv' := [(4, .int (x4 + (1 : Int32))), (3, .int (if x3 < o49.1 then o49.1 else x3)), (0, .ref (ad 0)), (1, .int x1), (2, .int x2)]) hx9 hb d11_longestWithout_56 hl (k := 4) rfl rfl (by decide) rfl (fun ls hl => ?_)
        refine lv_goto (tgt := 5) hx9 hb d11_longestWithout_59 (by decide) ?_
        exact ih (if x3 < o49.1 then o49.1 else x3) (x4 + (1 : Int32)) o49.2 _ _ _ hH (lv_sub hl [2, 3, 4, 1, 0] rfl) e
def f11_longestWithout (F : Nat) (x1 : Int32) (x2 : Int32) (h : Hp) : Option (Int32 × Hp) :=
  Option.bind (ce_it (fun (st : Int32 × Int32 × Hp) => f11_longestWithout_b5 F x1 x2 st.1 st.2.1 st.2.2) F ((0 : Int32), (0 : Int32), h)) (fun o5 =>
    some (o5.1, o5.2))
set_option maxRecDepth 20000 in
theorem c11_longestWithout (l : Launch) (D : va_G) (ad : Nat → Nat) (cA : Nat → ClassId) (aK aV : Nat → Nat) (B0 : Nat) (hA : ce_Ad ad B0) (F : Nat) (x1 : Int32) (x2 : Int32)  (h : Hp) (r : Int32 × Hp) (e : f11_longestWithout F x1 x2 h = some r) : ce_Ct l D ad cA B0 (ce_St aK aV B0) y11_longestWithout b11_longestWithout 5 (some .int) 3 73 0 0 [.ref (ad 0), .int x1, .int x2] h (some (.int r.1)) r.2 := by
  refine ce_enter hA (by decide) rfl (Nat.le_of_ble_eq_true rfl) (fun p e0 s m below meth c ls C hH hl => ?_)
  have hl : lv_has ls 5 [(0, .ref (ad 0)), (1, .int x1), (2, .int x2)] := hl
  have hx := C.1
  have hb := C.2.1
  have e : Option.bind _ some = some r := (congrArg (fun z => Option.bind z some) e).trans rfl
  unfold f11_longestWithout at e
  refine lv_iconst (v := (0 : Int32)) hx hb d11_longestWithout_0 (by decide) ?_
  refine lv_istore_n (lv' := [(3, .int (0 : Int32)), (0, .ref (ad 0)), (1, .int x1), (2, .int x2)]) hx hb d11_longestWithout_1 rfl hl (by decide) rfl (fun ls hl => ?_)
  refine lv_iconst (v := (0 : Int32)) hx hb d11_longestWithout_2 (by decide) ?_
  refine lv_istore (lv' := [(4, .int (0 : Int32)), (3, .int (0 : Int32)), (0, .ref (ad 0)), (1, .int x1), (2, .int x2)]) hx hb d11_longestWithout_3 hl (by decide) rfl (fun ls hl => ?_)
  refine l11_longestWithout_5 C F x1 x2  r _ (fun y5_3 h_5 H locs ls hH hl e => ?_) F (0 : Int32) (0 : Int32) h _ _ _ hH (lv_sub hl [2, 3, 4, 1, 0] rfl) (ce_as e)
  try dsimp only at e
  refine lv_iload_n hx hb d11_longestWithout_62 rfl (lv_at hl 0 rfl) ?_
  exact ce_iretE C (ce_sok aK aV B0) hH e d11_longestWithout_63
abbrev b11_longest : ByteArray := prog_1_method_21_code
def y11_longest : MethodName := ⟨cn_11, "longest", "(I)I"⟩
theorem d11_longest_0 : decode b11_longest 0 = .ok (.aload_n 0, 1) := by decide +kernel
theorem d11_longest_1 : decode b11_longest 1 = .ok (.iload_n 1, 1) := by decide +kernel
theorem d11_longest_2 : decode b11_longest 2 = .ok (.invokevirtual 169, 3) := by decide +kernel
theorem d11_longest_5 : decode b11_longest 5 = .ok (.istore_n 2, 1) := by decide +kernel
theorem d11_longest_6 : decode b11_longest 6 = .ok (.iload_n 2, 1) := by decide +kernel
theorem d11_longest_7 : decode b11_longest 7 = .ok (.ifCond .eq 7, 3) := by decide +kernel
theorem d11_longest_10 : decode b11_longest 10 = .ok (.iload_n 2, 1) := by decide +kernel
theorem d11_longest_11 : decode b11_longest 11 = .ok (.goto 9, 3) := by decide +kernel
theorem d11_longest_14 : decode b11_longest 14 = .ok (.aload_n 0, 1) := by decide +kernel
theorem d11_longest_15 : decode b11_longest 15 = .ok (.iload_n 1, 1) := by decide +kernel
theorem d11_longest_16 : decode b11_longest 16 = .ok (.iconst (-1), 1) := by decide +kernel
theorem d11_longest_17 : decode b11_longest 17 = .ok (.invokevirtual 222, 3) := by decide +kernel
theorem d11_longest_20 : decode b11_longest 20 = .ok (.ireturn, 1) := by decide +kernel
theorem mc11_longestWithout : Cond.code y11_longestWithout b11_longestWithout 5 (some .int) ∈ ce_cm := ce_cm_of (List.mem_of_getElem? (i := 917) (by decide +kernel)) (by decide +kernel)
theorem ml_11_222 : Cond.methodLink cn_11 222 y11_longestWithout ∈ ce_cm := ce_cm_of (List.mem_of_getElem? (i := 914) (by decide +kernel)) (by decide +kernel)
theorem mi11_longestWithout : Cond.instanceMethod y11_longestWithout ∈ ce_cm := ce_cm_of (List.mem_of_getElem? (i := 916) (by decide +kernel)) (by decide +kernel)
theorem ms11_longestWithout : Cond.selects cn_11 y11_longestWithout y11_longestWithout ∈ ce_cm := ce_cm_of (List.mem_of_getElem? (i := 22) (by decide +kernel)) (by decide +kernel)
def f11_longest (F : Nat) (x1 : Int32) (h : Hp) : Option (Int32 × Hp) :=
  Option.bind (f11_refusalOf F x1 h) (fun o2 =>
    if o2.1 = 0 then
      Option.bind (f11_longestWithout F x1 (-1 : Int32) o2.2) (fun o17 =>
        some (o17.1, o17.2))
    else
      some (o2.1, o2.2))
set_option maxRecDepth 20000 in
theorem c11_longest (l : Launch) (D : va_G) (ad : Nat → Nat) (cA : Nat → ClassId) (aK aV : Nat → Nat) (B0 : Nat) (hA : ce_Ad ad B0) (F : Nat) (x1 : Int32)  (h : Hp) (r : Int32 × Hp) (e : f11_longest F x1 h = some r) : ce_Ct l D ad cA B0 (ce_St aK aV B0) y11_longest b11_longest 3 (some .int) 4 97 0 0 [.ref (ad 0), .int x1] h (some (.int r.1)) r.2 := by
  refine ce_enter hA (by decide) rfl (Nat.le_of_ble_eq_true rfl) (fun p e0 s m below meth c ls C hH hl => ?_)
  have hl : lv_has ls 3 [(0, .ref (ad 0)), (1, .int x1)] := hl
  have hx := C.1
  have hb := C.2.1
  have e : Option.bind _ some = some r := (congrArg (fun z => Option.bind z some) e).trans rfl
  unfold f11_longest at e
  refine lv_aload_n hx hb d11_longest_0 rfl (lv_at hl 0 rfl) ?_
  refine lv_iload_n hx hb d11_longest_1 rfl (lv_at hl 1 rfl) ?_
  obtain ⟨o2, eo2, e⟩ := ce_bd e
  refine ce_callV (As := [.int x1]) (rest := []) C (ce_sok aK aV B0) hH (c11_refusalOf l D ad cA aK aV B0 C.2.2.2.2.2.2.1 F x1  h o2 eo2) lo_0.1 lo_0.2.choose_spec rfl rfl mc11_refusalOf ml_11_169 mi11_refusalOf ms11_refusalOf mI_11 (n := 1) (by decide) rfl ⟨Nat.le_of_ble_eq_true rfl, Nat.le_of_ble_eq_true rfl⟩ ⟨Nat.le_of_ble_eq_true rfl, Nat.le_of_ble_eq_true rfl⟩ hl.1 rfl (Nat.le_of_ble_eq_true rfl) d11_longest_2 (fun H locs hH => ?_)
  refine W.eq (g2 := F0 m 5 ls [.int o2.1]) rfl ?_
  refine lv_istore_n (lv' := [(2, .int o2.1), (0, .ref (ad 0)), (1, .int x1)]) hx hb d11_longest_5 rfl hl (by decide) rfl (fun ls hl => ?_)
  refine lv_iload_n hx hb d11_longest_6 rfl (lv_at hl 0 rfl) ?_
  refine lv_if_eq (tgt := 14) hx hb d11_longest_7 (by decide) (fun hc7 => ?_) (fun hc7 => ?_)
  · have e := ce_if1 e hc7
    refine lv_aload_n hx hb d11_longest_14 rfl (lv_at hl 1 rfl) ?_
    refine lv_iload_n hx hb d11_longest_15 rfl (lv_at hl 2 rfl) ?_
    refine lv_iconst (v := (-1 : Int32)) hx hb d11_longest_16 (by decide) ?_
    obtain ⟨o17, eo17, e⟩ := ce_bd e
    refine ce_callV (As := [.int x1, .int (-1 : Int32)]) (rest := []) C (ce_sok aK aV B0) hH (c11_longestWithout l D ad cA aK aV B0 C.2.2.2.2.2.2.1 F x1 (-1 : Int32)  o2.2 o17 eo17) lo_0.1 lo_0.2.choose_spec rfl rfl mc11_longestWithout ml_11_222 mi11_longestWithout ms11_longestWithout mI_11 (n := 2) (by decide) rfl ⟨Nat.le_of_ble_eq_true rfl, Nat.le_of_ble_eq_true rfl⟩ ⟨Nat.le_of_ble_eq_true rfl, Nat.le_of_ble_eq_true rfl⟩ hl.1 rfl (Nat.le_of_ble_eq_true rfl) d11_longest_17 (fun H locs hH => ?_)
    refine W.eq (g2 := F0 m 20 ls [.int o17.1]) rfl ?_
    exact ce_iretE C (ce_sok aK aV B0) hH e d11_longest_20
  · have e := ce_if0 e hc7
    refine lv_iload_n hx hb d11_longest_10 rfl (lv_at hl 0 rfl) ?_
    refine lv_goto (tgt := 20) hx hb d11_longest_11 (by decide) ?_
    exact ce_iretE C (ce_sok aK aV B0) hH e d11_longest_20
abbrev b11_gap : ByteArray := prog_1_method_22_code
def y11_gap : MethodName := ⟨cn_11, "gap", "(I)I"⟩
theorem d11_gap_0 : decode b11_gap 0 = .ok (.aload_n 0, 1) := by decide +kernel
theorem d11_gap_1 : decode b11_gap 1 = .ok (.iload_n 1, 1) := by decide +kernel
theorem d11_gap_2 : decode b11_gap 2 = .ok (.invokevirtual 169, 3) := by decide +kernel
theorem d11_gap_5 : decode b11_gap 5 = .ok (.istore_n 2, 1) := by decide +kernel
theorem d11_gap_6 : decode b11_gap 6 = .ok (.iload_n 2, 1) := by decide +kernel
theorem d11_gap_7 : decode b11_gap 7 = .ok (.ifCond .eq 7, 3) := by decide +kernel
theorem d11_gap_10 : decode b11_gap 10 = .ok (.iload_n 2, 1) := by decide +kernel
theorem d11_gap_11 : decode b11_gap 11 = .ok (.goto 12, 3) := by decide +kernel
theorem d11_gap_14 : decode b11_gap 14 = .ok (.aload_n 0, 1) := by decide +kernel
theorem d11_gap_15 : decode b11_gap 15 = .ok (.iload_n 1, 1) := by decide +kernel
theorem d11_gap_16 : decode b11_gap 16 = .ok (.iconst (-1), 1) := by decide +kernel
theorem d11_gap_17 : decode b11_gap 17 = .ok (.invokevirtual 222, 3) := by decide +kernel
theorem d11_gap_20 : decode b11_gap 20 = .ok (.invokestatic 225, 3) := by decide +kernel
theorem d11_gap_23 : decode b11_gap 23 = .ok (.ireturn, 1) := by decide +kernel
theorem mc11_gapFor : Cond.code y11_gapFor b11_gapFor 1 (some .int) ∈ ce_cm := ce_cm_of (List.mem_of_getElem? (i := 930) (by decide +kernel)) (by decide +kernel)
theorem ml_11_225 : Cond.methodLink cn_11 225 y11_gapFor ∈ ce_cm := ce_cm_of (List.mem_of_getElem? (i := 928) (by decide +kernel)) (by decide +kernel)
theorem mt11_gapFor : Cond.static y11_gapFor ∈ ce_cm := ce_cm_of (List.mem_of_getElem? (i := 929) (by decide +kernel)) (by decide +kernel)
def f11_gap (F : Nat) (x1 : Int32) (h : Hp) : Option (Int32 × Hp) :=
  Option.bind (f11_refusalOf F x1 h) (fun o2 =>
    if o2.1 = 0 then
      Option.bind (f11_longestWithout F x1 (-1 : Int32) o2.2) (fun o17 =>
        Option.bind (f11_gapFor F o17.1 o17.2) (fun o20 =>
          some (o20.1, o20.2)))
    else
      some (o2.1, o2.2))
set_option maxRecDepth 20000 in
theorem c11_gap (l : Launch) (D : va_G) (ad : Nat → Nat) (cA : Nat → ClassId) (aK aV : Nat → Nat) (B0 : Nat) (hA : ce_Ad ad B0) (F : Nat) (x1 : Int32)  (h : Hp) (r : Int32 × Hp) (e : f11_gap F x1 h = some r) : ce_Ct l D ad cA B0 (ce_St aK aV B0) y11_gap b11_gap 3 (some .int) 4 97 0 0 [.ref (ad 0), .int x1] h (some (.int r.1)) r.2 := by
  refine ce_enter hA (by decide) rfl (Nat.le_of_ble_eq_true rfl) (fun p e0 s m below meth c ls C hH hl => ?_)
  have hl : lv_has ls 3 [(0, .ref (ad 0)), (1, .int x1)] := hl
  have hx := C.1
  have hb := C.2.1
  have e : Option.bind _ some = some r := (congrArg (fun z => Option.bind z some) e).trans rfl
  unfold f11_gap at e
  refine lv_aload_n hx hb d11_gap_0 rfl (lv_at hl 0 rfl) ?_
  refine lv_iload_n hx hb d11_gap_1 rfl (lv_at hl 1 rfl) ?_
  obtain ⟨o2, eo2, e⟩ := ce_bd e
  refine ce_callV (As := [.int x1]) (rest := []) C (ce_sok aK aV B0) hH (c11_refusalOf l D ad cA aK aV B0 C.2.2.2.2.2.2.1 F x1  h o2 eo2) lo_0.1 lo_0.2.choose_spec rfl rfl mc11_refusalOf ml_11_169 mi11_refusalOf ms11_refusalOf mI_11 (n := 1) (by decide) rfl ⟨Nat.le_of_ble_eq_true rfl, Nat.le_of_ble_eq_true rfl⟩ ⟨Nat.le_of_ble_eq_true rfl, Nat.le_of_ble_eq_true rfl⟩ hl.1 rfl (Nat.le_of_ble_eq_true rfl) d11_gap_2 (fun H locs hH => ?_)
  refine W.eq (g2 := F0 m 5 ls [.int o2.1]) rfl ?_
  refine lv_istore_n (lv' := [(2, .int o2.1), (0, .ref (ad 0)), (1, .int x1)]) hx hb d11_gap_5 rfl hl (by decide) rfl (fun ls hl => ?_)
  refine lv_iload_n hx hb d11_gap_6 rfl (lv_at hl 0 rfl) ?_
  refine lv_if_eq (tgt := 14) hx hb d11_gap_7 (by decide) (fun hc7 => ?_) (fun hc7 => ?_)
  · have e := ce_if1 e hc7
    refine lv_aload_n hx hb d11_gap_14 rfl (lv_at hl 1 rfl) ?_
    refine lv_iload_n hx hb d11_gap_15 rfl (lv_at hl 2 rfl) ?_
    refine lv_iconst (v := (-1 : Int32)) hx hb d11_gap_16 (by decide) ?_
    obtain ⟨o17, eo17, e⟩ := ce_bd e
    refine ce_callV (As := [.int x1, .int (-1 : Int32)]) (rest := []) C (ce_sok aK aV B0) hH (c11_longestWithout l D ad cA aK aV B0 C.2.2.2.2.2.2.1 F x1 (-1 : Int32)  o2.2 o17 eo17) lo_0.1 lo_0.2.choose_spec rfl rfl mc11_longestWithout ml_11_222 mi11_longestWithout ms11_longestWithout mI_11 (n := 2) (by decide) rfl ⟨Nat.le_of_ble_eq_true rfl, Nat.le_of_ble_eq_true rfl⟩ ⟨Nat.le_of_ble_eq_true rfl, Nat.le_of_ble_eq_true rfl⟩ hl.1 rfl (Nat.le_of_ble_eq_true rfl) d11_gap_17 (fun H locs hH => ?_)
    refine W.eq (g2 := F0 m 20 ls [.int o17.1]) rfl ?_
    obtain ⟨o20, eo20, e⟩ := ce_bd e
    refine ce_callS (As := [.int o17.1]) (rest := []) C (ce_sok aK aV B0) hH (c11_gapFor l D ad cA aK aV B0 C.2.2.2.2.2.2.1 F o17.1  o17.2 o20 eo20) mc11_gapFor ml_11_225 mt11_gapFor mI_11 (n := 1) (by decide) rfl ⟨Nat.le_of_ble_eq_true rfl, Nat.le_of_ble_eq_true rfl⟩ ⟨Nat.le_of_ble_eq_true rfl, Nat.le_of_ble_eq_true rfl⟩ hl.1 rfl (Nat.le_of_ble_eq_true rfl) d11_gap_20 (fun H locs hH => ?_)
    refine W.eq (g2 := F0 m 23 ls [.int o20.1]) rfl ?_
    exact ce_iretE C (ce_sok aK aV B0) hH e d11_gap_23
  · have e := ce_if0 e hc7
    refine lv_iload_n hx hb d11_gap_10 rfl (lv_at hl 0 rfl) ?_
    refine lv_goto (tgt := 23) hx hb d11_gap_11 (by decide) ?_
    exact ce_iretE C (ce_sok aK aV B0) hH e d11_gap_23
end C8
