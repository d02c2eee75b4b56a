-- C18: functions and contracts, written by wip/whole/gen (mgen.py, walk.py, walk2.py) out of the bytecode
section C18
variable {p : Program} {l : Launch} {e0 : Env} {R : Room} {s : State} {m : MethodId} {args : Array Value} {below : List Frame} {meth : Method} {c : Code} {H : Heap} {locs : List Loc} {cells slots : Nat} {Q : State → Prop}
variable {cc : ByteArray} {pc nL : Nat} {ret : Option FieldType} {ls : Array Slot} {rest : List Value} {D : va_G} {ad : Nat → Nat} {cA : Nat → ClassId} {B0 : Nat} {X : va_W} {h : Hp} {aK aV : Nat → Nat}
abbrev b12_packets : ByteArray := prog_14_method_79_code
def y12_packets : MethodName := ⟨cn_12, "packets", "()I"⟩
theorem d12_packets_0 : decode b12_packets 0 = .ok (.aload_n 0, 1) := by decide +kernel
theorem d12_packets_1 : decode b12_packets 1 = .ok (.iconst 0, 1) := by decide +kernel
theorem d12_packets_2 : decode b12_packets 2 = .ok (.putfield 329, 3) := by decide +kernel
theorem d12_packets_5 : decode b12_packets 5 = .ok (.aload_n 0, 1) := by decide +kernel
theorem d12_packets_6 : decode b12_packets 6 = .ok (.iconst 0, 1) := by decide +kernel
theorem d12_packets_7 : decode b12_packets 7 = .ok (.putfield 326, 3) := by decide +kernel
theorem d12_packets_10 : decode b12_packets 10 = .ok (.aload_n 0, 1) := by decide +kernel
theorem d12_packets_11 : decode b12_packets 11 = .ok (.iconst 0, 1) := by decide +kernel
theorem d12_packets_12 : decode b12_packets 12 = .ok (.putfield 332, 3) := by decide +kernel
theorem d12_packets_15 : decode b12_packets 15 = .ok (.aload_n 0, 1) := by decide +kernel
theorem d12_packets_16 : decode b12_packets 16 = .ok (.invokevirtual 208, 3) := by decide +kernel
theorem d12_packets_19 : decode b12_packets 19 = .ok (.aload_n 0, 1) := by decide +kernel
theorem d12_packets_20 : decode b12_packets 20 = .ok (.getfield 125, 3) := by decide +kernel
theorem d12_packets_23 : decode b12_packets 23 = .ok (.ifCond .ne 41, 3) := by decide +kernel
theorem d12_packets_26 : decode b12_packets 26 = .ok (.aload_n 0, 1) := by decide +kernel
theorem d12_packets_27 : decode b12_packets 27 = .ok (.getfield 115, 3) := by decide +kernel
theorem d12_packets_30 : decode b12_packets 30 = .ok (.ifCond .eq 34, 3) := by decide +kernel
theorem d12_packets_33 : decode b12_packets 33 = .ok (.aload_n 0, 1) := by decide +kernel
theorem d12_packets_34 : decode b12_packets 34 = .ok (.invokevirtual 335, 3) := by decide +kernel
theorem d12_packets_37 : decode b12_packets 37 = .ok (.aload_n 0, 1) := by decide +kernel
theorem d12_packets_38 : decode b12_packets 38 = .ok (.aload_n 0, 1) := by decide +kernel
theorem d12_packets_39 : decode b12_packets 39 = .ok (.getfield 125, 3) := by decide +kernel
theorem d12_packets_42 : decode b12_packets 42 = .ok (.ifCond .ne 11, 3) := by decide +kernel
theorem d12_packets_45 : decode b12_packets 45 = .ok (.aload_n 0, 1) := by decide +kernel
theorem d12_packets_46 : decode b12_packets 46 = .ok (.getfield 115, 3) := by decide +kernel
theorem d12_packets_49 : decode b12_packets 49 = .ok (.iconst 3, 1) := by decide +kernel
theorem d12_packets_50 : decode b12_packets 50 = .ok (.if_icmp .ne 7, 3) := by decide +kernel
theorem d12_packets_53 : decode b12_packets 53 = .ok (.iconst 1, 1) := by decide +kernel
theorem d12_packets_54 : decode b12_packets 54 = .ok (.goto 4, 3) := by decide +kernel
theorem d12_packets_57 : decode b12_packets 57 = .ok (.iconst 0, 1) := by decide +kernel
theorem d12_packets_58 : decode b12_packets 58 = .ok (.invokevirtual 149, 3) := by decide +kernel
theorem d12_packets_61 : decode b12_packets 61 = .ok (.goto (-42), 3) := by decide +kernel
theorem d12_packets_64 : decode b12_packets 64 = .ok (.aload_n 0, 1) := by decide +kernel
theorem d12_packets_65 : decode b12_packets 65 = .ok (.getfield 332, 3) := by decide +kernel
theorem d12_packets_68 : decode b12_packets 68 = .ok (.ifCond .ne 15, 3) := by decide +kernel
theorem d12_packets_71 : decode b12_packets 71 = .ok (.aload_n 0, 1) := by decide +kernel
theorem d12_packets_72 : decode b12_packets 72 = .ok (.getfield 329, 3) := by decide +kernel
theorem d12_packets_75 : decode b12_packets 75 = .ok (.ifCond .le 8, 3) := by decide +kernel
theorem d12_packets_78 : decode b12_packets 78 = .ok (.aload_n 0, 1) := by decide +kernel
theorem d12_packets_79 : decode b12_packets 79 = .ok (.iconst 4, 1) := by decide +kernel
theorem d12_packets_80 : decode b12_packets 80 = .ok (.invokevirtual 142, 3) := by decide +kernel
theorem d12_packets_83 : decode b12_packets 83 = .ok (.aload_n 0, 1) := by decide +kernel
theorem d12_packets_84 : decode b12_packets 84 = .ok (.iconst 0, 1) := by decide +kernel
theorem d12_packets_85 : decode b12_packets 85 = .ok (.putfield 95, 3) := by decide +kernel
theorem d12_packets_88 : decode b12_packets 88 = .ok (.aload_n 0, 1) := by decide +kernel
theorem d12_packets_89 : decode b12_packets 89 = .ok (.getfield 125, 3) := by decide +kernel
theorem d12_packets_92 : decode b12_packets 92 = .ok (.ifCond .eq 6, 3) := by decide +kernel
theorem d12_packets_95 : decode b12_packets 95 = .ok (.bipush (-4), 2) := by decide +kernel
theorem d12_packets_97 : decode b12_packets 97 = .ok (.ireturn, 1) := by decide +kernel
theorem d12_packets_98 : decode b12_packets 98 = .ok (.aload_n 0, 1) := by decide +kernel
theorem d12_packets_99 : decode b12_packets 99 = .ok (.aload_n 0, 1) := by decide +kernel
theorem d12_packets_100 : decode b12_packets 100 = .ok (.getfield 329, 3) := by decide +kernel
theorem d12_packets_103 : decode b12_packets 103 = .ok (.putfield 338, 3) := by decide +kernel
theorem d12_packets_106 : decode b12_packets 106 = .ok (.iconst 0, 1) := by decide +kernel
theorem d12_packets_107 : decode b12_packets 107 = .ok (.istore_n 1, 1) := by decide +kernel
theorem d12_packets_108 : decode b12_packets 108 = .ok (.iload_n 1, 1) := by decide +kernel
theorem d12_packets_109 : decode b12_packets 109 = .ok (.iconst 4, 1) := by decide +kernel
theorem d12_packets_110 : decode b12_packets 110 = .ok (.aload_n 0, 1) := by decide +kernel
theorem d12_packets_111 : decode b12_packets 111 = .ok (.getfield 338, 3) := by decide +kernel
theorem d12_packets_114 : decode b12_packets 114 = .ok (.imul, 1) := by decide +kernel
theorem d12_packets_115 : decode b12_packets 115 = .ok (.if_icmp .ge 21, 3) := by decide +kernel
theorem d12_packets_118 : decode b12_packets 118 = .ok (.aload_n 0, 1) := by decide +kernel
theorem d12_packets_119 : decode b12_packets 119 = .ok (.getfield 68, 3) := by decide +kernel
theorem d12_packets_122 : decode b12_packets 122 = .ok (.iload_n 1, 1) := by decide +kernel
theorem d12_packets_123 : decode b12_packets 123 = .ok (.aload_n 0, 1) := by decide +kernel
theorem d12_packets_124 : decode b12_packets 124 = .ok (.getfield 74, 3) := by decide +kernel
theorem d12_packets_127 : decode b12_packets 127 = .ok (.iload_n 1, 1) := by decide +kernel
theorem d12_packets_128 : decode b12_packets 128 = .ok (.iaload, 1) := by decide +kernel
theorem d12_packets_129 : decode b12_packets 129 = .ok (.iastore, 1) := by decide +kernel
theorem d12_packets_130 : decode b12_packets 130 = .ok (.iinc 1 1, 3) := by decide +kernel
theorem d12_packets_133 : decode b12_packets 133 = .ok (.goto (-25), 3) := by decide +kernel
theorem d12_packets_136 : decode b12_packets 136 = .ok (.iconst 0, 1) := by decide +kernel
theorem d12_packets_137 : decode b12_packets 137 = .ok (.istore_n 1, 1) := by decide +kernel
theorem d12_packets_138 : decode b12_packets 138 = .ok (.iload_n 1, 1) := by decide +kernel
theorem d12_packets_139 : decode b12_packets 139 = .ok (.aload_n 0, 1) := by decide +kernel
theorem d12_packets_140 : decode b12_packets 140 = .ok (.getfield 338, 3) := by decide +kernel
theorem d12_packets_143 : decode b12_packets 143 = .ok (.if_icmp .ge 21, 3) := by decide +kernel
theorem d12_packets_146 : decode b12_packets 146 = .ok (.aload_n 0, 1) := by decide +kernel
theorem d12_packets_147 : decode b12_packets 147 = .ok (.getfield 65, 3) := by decide +kernel
theorem d12_packets_150 : decode b12_packets 150 = .ok (.iload_n 1, 1) := by decide +kernel
theorem d12_packets_151 : decode b12_packets 151 = .ok (.aload_n 0, 1) := by decide +kernel
theorem d12_packets_152 : decode b12_packets 152 = .ok (.getfield 71, 3) := by decide +kernel
theorem d12_packets_155 : decode b12_packets 155 = .ok (.iload_n 1, 1) := by decide +kernel
theorem d12_packets_156 : decode b12_packets 156 = .ok (.iaload, 1) := by decide +kernel
theorem d12_packets_157 : decode b12_packets 157 = .ok (.iastore, 1) := by decide +kernel
theorem d12_packets_158 : decode b12_packets 158 = .ok (.iinc 1 1, 3) := by decide +kernel
theorem d12_packets_161 : decode b12_packets 161 = .ok (.goto (-23), 3) := by decide +kernel
theorem d12_packets_164 : decode b12_packets 164 = .ok (.aload_n 0, 1) := by decide +kernel
theorem d12_packets_165 : decode b12_packets 165 = .ok (.invokevirtual 341, 3) := by decide +kernel
theorem d12_packets_168 : decode b12_packets 168 = .ok (.aload_n 0, 1) := by decide +kernel
theorem d12_packets_169 : decode b12_packets 169 = .ok (.getfield 338, 3) := by decide +kernel
theorem d12_packets_172 : decode b12_packets 172 = .ok (.ireturn, 1) := by decide +kernel
theorem mc12_readsPacket : Cond.code y12_readsPacket b12_readsPacket 4 none ∈ ce_cm := ce_cm_of (List.mem_of_getElem? (i := 1557) (by decide +kernel)) (by decide +kernel)
theorem ml_12_335 : Cond.methodLink cn_12 335 y12_readsPacket ∈ ce_cm := ce_cm_of (List.mem_of_getElem? (i := 1554) (by decide +kernel)) (by decide +kernel)
theorem mi12_readsPacket : Cond.instanceMethod y12_readsPacket ∈ ce_cm := ce_cm_of (List.mem_of_getElem? (i := 1556) (by decide +kernel)) (by decide +kernel)
theorem ms12_readsPacket : Cond.selects cn_12 y12_readsPacket y12_readsPacket ∈ ce_cm := ce_cm_of (List.mem_of_getElem? (i := 77) (by decide +kernel)) (by decide +kernel)
theorem mc12_builds : Cond.code y12_builds b12_builds 3 none ∈ ce_cm := ce_cm_of (List.mem_of_getElem? (i := 1569) (by decide +kernel)) (by decide +kernel)
theorem ml_12_341 : Cond.methodLink cn_12 341 y12_builds ∈ ce_cm := ce_cm_of (List.mem_of_getElem? (i := 1566) (by decide +kernel)) (by decide +kernel)
theorem mi12_builds : Cond.instanceMethod y12_builds ∈ ce_cm := ce_cm_of (List.mem_of_getElem? (i := 1568) (by decide +kernel)) (by decide +kernel)
theorem ms12_builds : Cond.selects cn_12 y12_builds y12_builds ∈ ce_cm := ce_cm_of (List.mem_of_getElem? (i := 80) (by decide +kernel)) (by decide +kernel)
def f12_packets_b19 (F : Nat)  (h : Hp) : Option ((Hp) ⊕ (Hp)) :=
  if (h 68 11) = 0 then
    if (h 68 9) = 0 then
      some (.inr h)
    else
      Option.bind (f12_readsPacket F  h) (fun o34 =>
        if (o34 68 11) = 0 then
          if (o34 68 9) = (3 : Int32) then
            Option.bind (f12_passes F (1 : Int32) o34) (fun o58 =>
              some (.inl o58))
          else
            Option.bind (f12_passes F (0 : Int32) o34) (fun o58 =>
              some (.inl o58))
        else
          Option.bind (f12_passes F (1 : Int32) o34) (fun o58 =>
            some (.inl o58)))
  else
    some (.inr h)
set_option maxRecDepth 20000 in
theorem l12_packets_19 (C : ce_Cx p s m args c meth b12_packets 2 (some .int) cn_12 D ad cA B0 (ce_St aK aV B0)) (F : Nat)   (r : Int32 × Hp) (g : (Hp) → Option (Int32 × Hp)) (hx : ∀  (h : Hp) (H : Heap) (locs : List Loc) (ls : Array Slot), ce_H D ad cA B0 [] s h H locs → lv_has ls 2 [(0, .ref (ad 68))] → g h = some r → W p l e0 { frames := 4, cells := 0, slots := 0, locals := 90 } s m args below meth c H locs 0 0 (MQ below (ce_Q D ad cA B0 (ce_St aK aV B0) (some (.int r.1)) r.2) args s 0 0 (fun q => B0 ≤ q)) (F0 m 64 ls [])) : ∀ (n : Nat)  (h : Hp) (H : Heap) (locs : List Loc) (ls : Array Slot), ce_H D ad cA B0 [] s h H locs → lv_has ls 2 [(0, .ref (ad 68))] → Option.bind (ce_it (fun (st : Hp) => f12_packets_b19 F  st) n h) g = some r → W p l e0 { frames := 4, cells := 0, slots := 0, locals := 90 } s m args below meth c H locs 0 0 (MQ below (ce_Q D ad cA B0 (ce_St aK aV B0) (some (.int r.1)) r.2) args s 0 0 (fun q => B0 ≤ q)) (F0 m 19 ls []) := by
  intro n
  induction n with
  | zero =>
    intro  h H locs ls hH hl e
    exact absurd e (fun z => by cases z)
  | succ n ih =>
    intro  h H locs ls hH hl e
    have hx9 := C.1
    have hb := C.2.1
    have e : Option.bind (f12_packets_b19 F   h) _ = some r := ce_it_bd e
    unfold f12_packets_b19 at e
    refine lv_aload_n hx9 hb d12_packets_19 rfl (lv_at hl 0 rfl) ?_
    refine gf_12_125 C hH d12_packets_20 ?_
    refine lv_if_ne (tgt := 64) hx9 hb d12_packets_23 (by decide) (fun hc23 => ?_) (fun hc23 => ?_)
    · have e := ce_if0 e hc23
      exact hx  h _ _ _ hH (lv_sub hl [0] rfl) e
    · have e := ce_if1 e hc23
      refine lv_aload_n hx9 hb d12_packets_26 rfl (lv_at hl 0 rfl) ?_
      refine gf_12_115 C hH d12_packets_27 ?_
      refine lv_if_eq (tgt := 64) hx9 hb d12_packets_30 (by decide) (fun hc30 => ?_) (fun hc30 => ?_)
      · have e := ce_if1 e hc30
        exact hx  h _ _ _ hH (lv_sub hl [0] rfl) e
      · have e := ce_if0 e hc30
        refine lv_aload_n hx9 hb d12_packets_33 rfl (lv_at hl 0 rfl) ?_
        obtain ⟨o34, eo34, e⟩ := ce_bd e
        refine ce_callV (As := []) (rest := []) C (ce_sok aK aV B0) hH (c12_readsPacket l D ad cA aK aV B0 C.2.2.2.2.2.2.1 F   h o34 eo34) lo_68.1 lo_68.2.choose_spec rfl rfl mc12_readsPacket ml_12_335 mi12_readsPacket ms12_readsPacket mI_12 (n := 0) (by decide) rfl ⟨Nat.le_of_ble_eq_true rfl, Nat.le_of_ble_eq_true rfl⟩ ⟨Nat.le_of_ble_eq_true rfl, Nat.le_of_ble_eq_true rfl⟩ hl.1 rfl (Nat.le_of_ble_eq_true rfl) d12_packets_34 (fun H locs hH => ?_)
        refine W.eq (g2 := F0 m 37 ls []) rfl ?_
        refine lv_aload_n hx9 hb d12_packets_37 rfl (lv_at hl 0 rfl) ?_
        refine lv_aload_n hx9 hb d12_packets_38 rfl (lv_at hl 0 rfl) ?_
        refine gf_12_125 C hH d12_packets_39 ?_
        refine lv_if_ne (tgt := 53) hx9 hb d12_packets_42 (by decide) (fun hc42 => ?_) (fun hc42 => ?_)
        · have e := ce_if0 e hc42
          refine lv_iconst (v := (1 : Int32)) hx9 hb d12_packets_53 (by decide) ?_
          refine lv_goto (tgt := 58) hx9 hb d12_packets_54 (by decide) ?_
          obtain ⟨o58, eo58, e⟩ := ce_bd e
          refine ce_callV (As := [.int (1 : Int32)]) (rest := []) C (ce_sok aK aV B0) hH (c12_passes l D ad cA aK aV B0 C.2.2.2.2.2.2.1 F (1 : Int32)  o34 o58 eo58) lo_68.1 lo_68.2.choose_spec rfl rfl mc12_passes ml_12_149 mi12_passes ms12_passes mI_12 (n := 1) (by decide) rfl ⟨Nat.le_of_ble_eq_true rfl, Nat.le_of_ble_eq_true rfl⟩ ⟨Nat.le_of_ble_eq_true rfl, Nat.le_of_ble_eq_true rfl⟩ hl.1 rfl (Nat.le_of_ble_eq_true rfl) d12_packets_58 (fun H locs hH => ?_)
          refine W.eq (g2 := F0 m 61 ls []) rfl ?_
          refine lv_goto (tgt := 19) hx9 hb d12_packets_61 (by decide) ?_
          exact ih  o58 _ _ _ hH (lv_sub hl [0] rfl) e
        · have e := ce_if1 e hc42
          refine lv_aload_n hx9 hb d12_packets_45 rfl (lv_at hl 0 rfl) ?_
          refine gf_12_115 C hH d12_packets_46 ?_
          refine lv_iconst (v := (3 : Int32)) hx9 hb d12_packets_49 (by decide) ?_
          refine lv_icmp_ne (tgt := 57) hx9 hb d12_packets_50 (by decide) (fun hc50 => ?_) (fun hc50 => ?_)
          · have e := ce_if0 e hc50
            refine lv_iconst (v := (0 : Int32)) hx9 hb d12_packets_57 (by decide) ?_
            obtain ⟨o58, eo58, e⟩ := ce_bd e
            refine ce_callV (As := [.int (0 : Int32)]) (rest := []) C (ce_sok aK aV B0) hH (c12_passes l D ad cA aK aV B0 C.2.2.2.2.2.2.1 F (0 : Int32)  o34 o58 eo58) lo_68.1 lo_68.2.choose_spec rfl rfl mc12_passes ml_12_149 mi12_passes ms12_passes mI_12 (n := 1) (by decide) rfl ⟨Nat.le_of_ble_eq_true rfl, Nat.le_of_ble_eq_true rfl⟩ ⟨Nat.le_of_ble_eq_true rfl, Nat.le_of_ble_eq_true rfl⟩ hl.1 rfl (Nat.le_of_ble_eq_true rfl) d12_packets_58 (fun H locs hH => ?_)
            refine W.eq (g2 := F0 m 61 ls []) rfl ?_
            refine lv_goto (tgt := 19) hx9 hb d12_packets_61 (by decide) ?_
            exact ih  o58 _ _ _ hH (lv_sub hl [0] rfl) e
          · have e := ce_if1 e hc50
            refine lv_iconst (v := (1 : Int32)) hx9 hb d12_packets_53 (by decide) ?_
            refine lv_goto (tgt := 58) hx9 hb d12_packets_54 (by decide) ?_
            obtain ⟨o58, eo58, e⟩ := ce_bd e
            refine ce_callV (As := [.int (1 : Int32)]) (rest := []) C (ce_sok aK aV B0) hH (c12_passes l D ad cA aK aV B0 C.2.2.2.2.2.2.1 F (1 : Int32)  o34 o58 eo58) lo_68.1 lo_68.2.choose_spec rfl rfl mc12_passes ml_12_149 mi12_passes ms12_passes mI_12 (n := 1) (by decide) rfl ⟨Nat.le_of_ble_eq_true rfl, Nat.le_of_ble_eq_true rfl⟩ ⟨Nat.le_of_ble_eq_true rfl, Nat.le_of_ble_eq_true rfl⟩ hl.1 rfl (Nat.le_of_ble_eq_true rfl) d12_packets_58 (fun H locs hH => ?_)
            refine W.eq (g2 := F0 m 61 ls []) rfl ?_
            refine lv_goto (tgt := 19) hx9 hb d12_packets_61 (by decide) ?_
            exact ih  o58 _ _ _ hH (lv_sub hl [0] rfl) e
def f12_packets_b108 (F : Nat) (x1 : Int32) (h : Hp) : Option ((Int32 × Hp) ⊕ (Hp)) :=
  if ((4 : Int32) * (h 68 29)) ≤ x1 then
    some (.inr h)
  else
    if ce_in x1 52 = true then
      if ce_in x1 48 = true then
        ce_nm (hp_up h 87 (x1).toNatClampNeg (h 89 (x1).toNatClampNeg)) (fun h_129 =>
          some (.inl (x1 + (1 : Int32), h_129)))
      else none
    else none
set_option maxRecDepth 20000 in
theorem l12_packets_108 (C : ce_Cx p s m args c meth b12_packets 2 (some .int) cn_12 D ad cA B0 (ce_St aK aV B0)) (F : Nat)   (r : Int32 × Hp) (g : (Hp) → Option (Int32 × Hp)) (hx : ∀  (h : Hp) (H : Heap) (locs : List Loc) (ls : Array Slot), ce_H D ad cA B0 [] s h H locs → lv_has ls 2 [(0, .ref (ad 68))] → g h = some r → W p l e0 { frames := 4, cells := 0, slots := 0, locals := 90 } s m args below meth c H locs 0 0 (MQ below (ce_Q D ad cA B0 (ce_St aK aV B0) (some (.int r.1)) r.2) args s 0 0 (fun q => B0 ≤ q)) (F0 m 136 ls [])) : ∀ (n : Nat) (x1 : Int32) (h : Hp) (H : Heap) (locs : List Loc) (ls : Array Slot), ce_H D ad cA B0 [] s h H locs → lv_has ls 2 [(0, .ref (ad 68)), (1, .int x1)] → Option.bind (ce_it (fun (st : Int32 × Hp) => f12_packets_b108 F  st.1 st.2) n (x1, h)) g = some r → W p l e0 { frames := 4, cells := 0, slots := 0, locals := 90 } s m args below meth c H locs 0 0 (MQ below (ce_Q D ad cA B0 (ce_St aK aV B0) (some (.int r.1)) r.2) args s 0 0 (fun q => B0 ≤ q)) (F0 m 108 ls []) := by
  intro n
  induction n with
  | zero =>
    intro x1 h H locs ls hH hl e
    exact absurd e (fun z => by cases z)
  | succ n ih =>
    intro x1 h H locs ls hH hl e
    have hx9 := C.1
    have hb := C.2.1
    have e : Option.bind (f12_packets_b108 F  x1 h) _ = some r := ce_it_bd e
    unfold f12_packets_b108 at e
    refine lv_iload_n hx9 hb d12_packets_108 rfl (lv_at hl 1 rfl) ?_
    refine lv_iconst (v := (4 : Int32)) hx9 hb d12_packets_109 (by decide) ?_
    refine lv_aload_n hx9 hb d12_packets_110 rfl (lv_at hl 0 rfl) ?_
    refine gf_12_338 C hH d12_packets_111 ?_
    refine lv_imul hx9 hb d12_packets_114 ?_
    refine lv_icmp_ge (tgt := 136) hx9 hb d12_packets_115 (by decide) (fun hc115 => ?_) (fun hc115 => ?_)
    · have e := ce_if1 e hc115
      exact hx  h _ _ _ hH (lv_sub hl [0] rfl) e
    · have e := ce_if0 e hc115
      refine lv_aload_n hx9 hb d12_packets_118 rfl (lv_at hl 0 rfl) ?_
      refine gf_12_68 C hH d12_packets_119 ?_
      refine lv_iload_n hx9 hb d12_packets_122 rfl (lv_at hl 1 rfl) ?_
      refine lv_aload_n hx9 hb d12_packets_123 rfl (lv_at hl 0 rfl) ?_
      refine gf_12_74 C hH d12_packets_124 ?_
      refine lv_iload_n hx9 hb d12_packets_127 rfl (lv_at hl 1 rfl) ?_
      obtain ⟨hi128, e⟩ := ce_gd e
      refine ce_iald C hH lc_89.1 lc_89.2 (ce_in_vp hi128) d12_packets_128 ?_
      obtain ⟨hi129, e⟩ := ce_gd e
      refine ce_iast C hH lc_87.1 lc_87.2 (ce_in_vp hi129) d12_packets_129 (fun H locs hH => ?_)
      obtain ⟨h_129, eh_129, e⟩ := ce_nmE e
      rw [← eh_129] at hH
      refine lv_iinc (v := x1 + (1 : Int32)) (lv' := [(1, .int (x1 + (1 : Int32))), (0, .ref (ad 68))]) hx9 hb d12_packets_130 hl (k := 1) rfl rfl (by decide) rfl (fun ls hl => ?_)
      refine lv_goto (tgt := 108) hx9 hb d12_packets_133 (by decide) ?_
      exact ih (x1 + (1 : Int32)) h_129 _ _ _ hH (lv_sub hl [1, 0] rfl) e
def f12_packets_b138 (F : Nat) (x1 : Int32) (h : Hp) : Option ((Int32 × Hp) ⊕ (Hp)) :=
  if (h 68 29) ≤ x1 then
    some (.inr h)
  else
    if ce_in x1 13 = true then
      if ce_in x1 12 = true then
        ce_nm (hp_up h 86 (x1).toNatClampNeg (h 88 (x1).toNatClampNeg)) (fun h_157 =>
          some (.inl (x1 + (1 : Int32), h_157)))
      else none
    else none
set_option maxRecDepth 20000 in
theorem l12_packets_138 (C : ce_Cx p s m args c meth b12_packets 2 (some .int) cn_12 D ad cA B0 (ce_St aK aV B0)) (F : Nat)   (r : Int32 × Hp) (g : (Hp) → Option (Int32 × Hp)) (hx : ∀  (h : Hp) (H : Heap) (locs : List Loc) (ls : Array Slot), ce_H D ad cA B0 [] s h H locs → lv_has ls 2 [(0, .ref (ad 68))] → g h = some r → W p l e0 { frames := 4, cells := 0, slots := 0, locals := 90 } s m args below meth c H locs 0 0 (MQ below (ce_Q D ad cA B0 (ce_St aK aV B0) (some (.int r.1)) r.2) args s 0 0 (fun q => B0 ≤ q)) (F0 m 164 ls [])) : ∀ (n : Nat) (x1 : Int32) (h : Hp) (H : Heap) (locs : List Loc) (ls : Array Slot), ce_H D ad cA B0 [] s h H locs → lv_has ls 2 [(0, .ref (ad 68)), (1, .int x1)] → Option.bind (ce_it (fun (st : Int32 × Hp) => f12_packets_b138 F  st.1 st.2) n (x1, h)) g = some r → W p l e0 { frames := 4, cells := 0, slots := 0, locals := 90 } s m args below meth c H locs 0 0 (MQ below (ce_Q D ad cA B0 (ce_St aK aV B0) (some (.int r.1)) r.2) args s 0 0 (fun q => B0 ≤ q)) (F0 m 138 ls []) := by
  intro n
  induction n with
  | zero =>
    intro x1 h H locs ls hH hl e
    exact absurd e (fun z => by cases z)
  | succ n ih =>
    intro x1 h H locs ls hH hl e
    have hx9 := C.1
    have hb := C.2.1
    have e : Option.bind (f12_packets_b138 F  x1 h) _ = some r := ce_it_bd e
    unfold f12_packets_b138 at e
    refine lv_iload_n hx9 hb d12_packets_138 rfl (lv_at hl 1 rfl) ?_
    refine lv_aload_n hx9 hb d12_packets_139 rfl (lv_at hl 0 rfl) ?_
    refine gf_12_338 C hH d12_packets_140 ?_
    refine lv_icmp_ge (tgt := 164) hx9 hb d12_packets_143 (by decide) (fun hc143 => ?_) (fun hc143 => ?_)
    · have e := ce_if1 e hc143
      exact hx  h _ _ _ hH (lv_sub hl [0] rfl) e
    · have e := ce_if0 e hc143
      refine lv_aload_n hx9 hb d12_packets_146 rfl (lv_at hl 0 rfl) ?_
      refine gf_12_65 C hH d12_packets_147 ?_
      refine lv_iload_n hx9 hb d12_packets_150 rfl (lv_at hl 1 rfl) ?_
      refine lv_aload_n hx9 hb d12_packets_151 rfl (lv_at hl 0 rfl) ?_
      refine gf_12_71 C hH d12_packets_152 ?_
      refine lv_iload_n hx9 hb d12_packets_155 rfl (lv_at hl 1 rfl) ?_
      obtain ⟨hi156, e⟩ := ce_gd e
      refine ce_iald C hH lc_88.1 lc_88.2 (ce_in_vp hi156) d12_packets_156 ?_
      obtain ⟨hi157, e⟩ := ce_gd e
      refine ce_iast C hH lc_86.1 lc_86.2 (ce_in_vp hi157) d12_packets_157 (fun H locs hH => ?_)
      obtain ⟨h_157, eh_157, e⟩ := ce_nmE e
      rw [← eh_157] at hH
      refine lv_iinc (v := x1 + (1 : Int32)) (lv' := [(1, .int (x1 + (1 : Int32))), (0, .ref (ad 68))]) hx9 hb d12_packets_158 hl (k := 1) rfl rfl (by decide) rfl (fun ls hl => ?_)
      refine lv_goto (tgt := 138) hx9 hb d12_packets_161 (by decide) ?_
      exact ih (x1 + (1 : Int32)) h_157 _ _ _ hH (lv_sub hl [1, 0] rfl) e
def f12_packets_j83 (F : Nat)  (h : Hp) : Option (Int32 × Hp) :=
  ce_nm (hp_up h 68 4 (0 : Int32)) (fun h_85 =>
    if (h_85 68 11) = 0 then
      ce_nm (hp_up h_85 68 29 (h_85 68 32)) (fun h_103 =>
        Option.bind (ce_it (fun (st : Int32 × Hp) => f12_packets_b108 F  st.1 st.2) F ((0 : Int32), h_103)) (fun o108 =>
          Option.bind (ce_it (fun (st : Int32 × Hp) => f12_packets_b138 F  st.1 st.2) F ((0 : Int32), o108)) (fun o138 =>
            Option.bind (f12_builds F  o138) (fun o165 =>
              some (o165 68 29, o165)))))
    else
      some ((-4 : Int32), h_85))
set_option maxRecDepth 20000 in
theorem j12_packets_83 (C : ce_Cx p s m args c meth b12_packets 2 (some .int) cn_12 D ad cA B0 (ce_St aK aV B0)) (F : Nat)   (r : Int32 × Hp) (h : Hp) (H : Heap) (locs : List Loc) (ls : Array Slot) (hH : ce_H D ad cA B0 [] s h H locs) (hl : lv_has ls 2 [(0, .ref (ad 68))]) (e : Option.bind (f12_packets_j83 F  h) some = some r) : W p l e0 { frames := 4, cells := 0, slots := 0, locals := 90 } s m args below meth c H locs 0 0 (MQ below (ce_Q D ad cA B0 (ce_St aK aV B0) (some (.int r.1)) r.2) args s 0 0 (fun q => B0 ≤ q)) (F0 m 83 ls []) := by
  have hx9 := C.1
  have hb := C.2.1
  unfold f12_packets_j83 at e
  refine lv_aload_n hx9 hb d12_packets_83 rfl (lv_at hl 0 rfl) ?_
  refine lv_iconst (v := (0 : Int32)) hx9 hb d12_packets_84 (by decide) ?_
  refine pf_12_95 C hH d12_packets_85 (fun H locs hH => ?_)
  obtain ⟨h_85, eh_85, e⟩ := ce_nmE e
  rw [← eh_85] at hH
  refine lv_aload_n hx9 hb d12_packets_88 rfl (lv_at hl 0 rfl) ?_
  refine gf_12_125 C hH d12_packets_89 ?_
  refine lv_if_eq (tgt := 98) hx9 hb d12_packets_92 (by decide) (fun hc92 => ?_) (fun hc92 => ?_)
  · have e := ce_if1 e hc92
    refine lv_aload_n hx9 hb d12_packets_98 rfl (lv_at hl 0 rfl) ?_
    refine lv_aload_n hx9 hb d12_packets_99 rfl (lv_at hl 0 rfl) ?_
    refine gf_12_329 C hH d12_packets_100 ?_
    refine pf_12_338 C hH d12_packets_103 (fun H locs hH => ?_)
    obtain ⟨h_103, eh_103, e⟩ := ce_nmE e
    rw [← eh_103] at hH
    refine lv_iconst (v := (0 : Int32)) hx9 hb d12_packets_106 (by decide) ?_
    refine lv_istore_n (lv' := [(1, .int (0 : Int32)), (0, .ref (ad 68))]) hx9 hb d12_packets_107 rfl hl (by decide) rfl (fun ls hl => ?_)
    refine l12_packets_108 C F   r _ (fun  h_108 H locs ls hH hl e => ?_) F (0 : Int32) h_103 _ _ _ hH (lv_sub hl [1, 0] rfl) (ce_as e)
    try dsimp only at e
    refine lv_iconst (v := (0 : Int32)) hx9 hb d12_packets_136 (by decide) ?_
    refine lv_istore_n (lv' := [(1, .int (0 : Int32)), (0, .ref (ad 68))]) hx9 hb d12_packets_137 rfl hl (by decide) rfl (fun ls hl => ?_)
    refine l12_packets_138 C F   r _ (fun  h_138 H locs ls hH hl e => ?_) F (0 : Int32) h_108 _ _ _ hH (lv_sub hl [1, 0] rfl) (ce_as e)
    try dsimp only at e
    refine lv_aload_n hx9 hb d12_packets_164 rfl (lv_at hl 0 rfl) ?_
    obtain ⟨o165, eo165, e⟩ := ce_bd e
    refine ce_callV (As := []) (rest := []) C (ce_sok aK aV B0) hH (c12_builds l D ad cA aK aV B0 C.2.2.2.2.2.2.1 F   h_138 o165 eo165) lo_68.1 lo_68.2.choose_spec rfl rfl mc12_builds ml_12_341 mi12_builds ms12_builds mI_12 (n := 0) (by decide) rfl ⟨Nat.le_of_ble_eq_true rfl, Nat.le_of_ble_eq_true rfl⟩ ⟨Nat.le_of_ble_eq_true rfl, Nat.le_of_ble_eq_true rfl⟩ hl.1 rfl (Nat.le_of_ble_eq_true rfl) d12_packets_165 (fun H locs hH => ?_)
    refine W.eq (g2 := F0 m 168 ls []) rfl ?_
    refine lv_aload_n hx9 hb d12_packets_168 rfl (lv_at hl 0 rfl) ?_
    refine gf_12_338 C hH d12_packets_169 ?_
    exact ce_iretE C (ce_sok aK aV B0) hH e d12_packets_172
  · have e := ce_if0 e hc92
    refine lv_bipush (v := (-4 : Int32)) hx9 hb d12_packets_95 (by decide) ?_
    exact ce_iretE C (ce_sok aK aV B0) hH e d12_packets_97
def f12_packets (F : Nat)  (h : Hp) : Option (Int32 × Hp) :=
  ce_nm (hp_up h 68 32 (0 : Int32)) (fun h_2 =>
    ce_nm (hp_up h_2 68 37 (0 : Int32)) (fun h_7 =>
      ce_nm (hp_up h_7 68 38 (0 : Int32)) (fun h_12 =>
        Option.bind (f12_begins F  h_12) (fun o16 =>
          Option.bind (ce_it (fun (st : Hp) => f12_packets_b19 F  st) F o16) (fun o19 =>
            if (o19 68 38) = 0 then
              if (o19 68 32) ≤ 0 then
                f12_packets_j83 F  o19
              else
                Option.bind (f12_faults F (4 : Int32) o19) (fun o80 =>
                  f12_packets_j83 F  o80)
            else
              f12_packets_j83 F  o19)))))
set_option maxRecDepth 20000 in
theorem c12_packets (l : Launch) (D : va_G) (ad : Nat → Nat) (cA : Nat → ClassId) (aK aV : Nat → Nat) (B0 : Nat) (hA : ce_Ad ad B0) (F : Nat)   (h : Hp) (r : Int32 × Hp) (e : f12_packets F  h = some r) : ce_Ct l D ad cA B0 (ce_St aK aV B0) y12_packets b12_packets 2 (some .int) 4 90 0 0 [.ref (ad 68)] h (some (.int r.1)) r.2 := by
  refine ce_enter hA (by decide) rfl (Nat.le_of_ble_eq_true rfl) (fun p e0 s m below meth c ls C hH hl => ?_)
  have hl : lv_has ls 2 [(0, .ref (ad 68))] := hl
  have hx := C.1
  have hb := C.2.1
  have e : Option.bind _ some = some r := (congrArg (fun z => Option.bind z some) e).trans rfl
  unfold f12_packets at e
  refine lv_aload_n hx hb d12_packets_0 rfl (lv_at hl 0 rfl) ?_
  refine lv_iconst (v := (0 : Int32)) hx hb d12_packets_1 (by decide) ?_
  refine pf_12_329 C hH d12_packets_2 (fun H locs hH => ?_)
  obtain ⟨h_2, eh_2, e⟩ := ce_nmE e
  rw [← eh_2] at hH
  refine lv_aload_n hx hb d12_packets_5 rfl (lv_at hl 0 rfl) ?_
  refine lv_iconst (v := (0 : Int32)) hx hb d12_packets_6 (by decide) ?_
  refine pf_12_326 C hH d12_packets_7 (fun H locs hH => ?_)
  obtain ⟨h_7, eh_7, e⟩ := ce_nmE e
  rw [← eh_7] at hH
  refine lv_aload_n hx hb d12_packets_10 rfl (lv_at hl 0 rfl) ?_
  refine lv_iconst (v := (0 : Int32)) hx hb d12_packets_11 (by decide) ?_
  refine pf_12_332 C hH (Or.inl rfl) d12_packets_12 (fun H locs hH => ?_)
  obtain ⟨h_12, eh_12, e⟩ := ce_nmE e
  rw [← eh_12] at hH
  refine lv_aload_n hx hb d12_packets_15 rfl (lv_at hl 0 rfl) ?_
  obtain ⟨o16, eo16, e⟩ := ce_bd e
  refine ce_callV (As := []) (rest := []) C (ce_sok aK aV B0) hH (c12_begins l D ad cA aK aV B0 C.2.2.2.2.2.2.1 F   h_12 o16 eo16) lo_68.1 lo_68.2.choose_spec rfl rfl mc12_begins ml_12_208 mi12_begins ms12_begins mI_12 (n := 0) (by decide) rfl ⟨Nat.le_of_ble_eq_true rfl, Nat.le_of_ble_eq_true rfl⟩ ⟨Nat.le_of_ble_eq_true rfl, Nat.le_of_ble_eq_true rfl⟩ hl.1 rfl (Nat.le_of_ble_eq_true rfl) d12_packets_16 (fun H locs hH => ?_)
  refine W.eq (g2 := F0 m 19 ls []) rfl ?_
  refine l12_packets_19 C F   r _ (fun  h_19 H locs ls hH hl e => ?_) F  o16 _ _ _ hH (lv_sub hl [0] rfl) (ce_as e)
  try dsimp only at e
  refine lv_aload_n hx hb d12_packets_64 rfl (lv_at hl 0 rfl) ?_
  refine gf_12_332 C hH d12_packets_65 ?_
  refine lv_if_ne (tgt := 83) hx hb d12_packets_68 (by decide) (fun hc68 => ?_) (fun hc68 => ?_)
  · have e := ce_if0 e hc68
    exact j12_packets_83 C F   r h_19 _ _ _ hH (lv_sub hl [0] rfl) e
  · have e := ce_if1 e hc68
    refine lv_aload_n hx hb d12_packets_71 rfl (lv_at hl 0 rfl) ?_
    refine gf_12_329 C hH d12_packets_72 ?_
    refine lv_if_le (tgt := 83) hx hb d12_packets_75 (by decide) (fun hc75 => ?_) (fun hc75 => ?_)
    · have e := ce_if1 e hc75
      exact j12_packets_83 C F   r h_19 _ _ _ hH (lv_sub hl [0] rfl) e
    · have e := ce_if0 e hc75
      refine lv_aload_n hx hb d12_packets_78 rfl (lv_at hl 0 rfl) ?_
      refine lv_iconst (v := (4 : Int32)) hx hb d12_packets_79 (by decide) ?_
      obtain ⟨o80, eo80, e⟩ := ce_bd e
      refine ce_callV (As := [.int (4 : Int32)]) (rest := []) C (ce_sok aK aV B0) hH (c12_faults l D ad cA aK aV B0 C.2.2.2.2.2.2.1 F (4 : Int32)  h_19 o80 eo80) lo_68.1 lo_68.2.choose_spec rfl rfl mc12_faults ml_12_142 mi12_faults ms12_faults mI_12 (n := 1) (by decide) rfl ⟨Nat.le_of_ble_eq_true rfl, Nat.le_of_ble_eq_true rfl⟩ ⟨Nat.le_of_ble_eq_true rfl, Nat.le_of_ble_eq_true rfl⟩ hl.1 rfl (Nat.le_of_ble_eq_true rfl) d12_packets_80 (fun H locs hH => ?_)
      refine W.eq (g2 := F0 m 83 ls []) rfl ?_
      exact j12_packets_83 C F   r o80 _ _ _ hH (lv_sub hl [0] rfl) e
abbrev b12_built : ByteArray := prog_14_method_81_code
def y12_built : MethodName := ⟨cn_12, "built", "(II)I"⟩
theorem d12_built_0 : decode b12_built 0 = .ok (.iload_n 1, 1) := by decide +kernel
theorem d12_built_1 : decode b12_built 1 = .ok (.i2l, 1) := by decide +kernel
theorem d12_built_2 : decode b12_built 2 = .ok (.lconst 0, 1) := by decide +kernel
theorem d12_built_3 : decode b12_built 3 = .ok (.aload_n 0, 1) := by decide +kernel
theorem d12_built_4 : decode b12_built 4 = .ok (.getfield 338, 3) := by decide +kernel
theorem d12_built_7 : decode b12_built 7 = .ok (.iconst 1, 1) := by decide +kernel
theorem d12_built_8 : decode b12_built 8 = .ok (.isub, 1) := by decide +kernel
theorem d12_built_9 : decode b12_built 9 = .ok (.i2l, 1) := by decide +kernel
theorem d12_built_10 : decode b12_built 10 = .ok (.invokestatic 98, 3) := by decide +kernel
theorem d12_built_13 : decode b12_built 13 = .ok (.ifCond .eq 15, 3) := by decide +kernel
theorem d12_built_16 : decode b12_built 16 = .ok (.iload_n 2, 1) := by decide +kernel
theorem d12_built_17 : decode b12_built 17 = .ok (.i2l, 1) := by decide +kernel
theorem d12_built_18 : decode b12_built 18 = .ok (.lconst 0, 1) := by decide +kernel
theorem d12_built_19 : decode b12_built 19 = .ok (.ldc2_w 344, 3) := by decide +kernel
theorem d12_built_22 : decode b12_built 22 = .ok (.invokestatic 98, 3) := by decide +kernel
theorem d12_built_25 : decode b12_built 25 = .ok (.ifCond .ne 6, 3) := by decide +kernel
theorem d12_built_28 : decode b12_built 28 = .ok (.bipush (-2), 2) := by decide +kernel
theorem d12_built_30 : decode b12_built 30 = .ok (.ireturn, 1) := by decide +kernel
theorem d12_built_31 : decode b12_built 31 = .ok (.iconst 0, 1) := by decide +kernel
theorem d12_built_32 : decode b12_built 32 = .ok (.istore_n 3, 1) := by decide +kernel
theorem d12_built_33 : decode b12_built 33 = .ok (.iconst 0, 1) := by decide +kernel
theorem d12_built_34 : decode b12_built 34 = .ok (.istore 4, 2) := by decide +kernel
theorem d12_built_36 : decode b12_built 36 = .ok (.iload 4, 2) := by decide +kernel
theorem d12_built_38 : decode b12_built 38 = .ok (.aload_n 0, 1) := by decide +kernel
theorem d12_built_39 : decode b12_built 39 = .ok (.getfield 338, 3) := by decide +kernel
theorem d12_built_42 : decode b12_built 42 = .ok (.if_icmp .ge 28, 3) := by decide +kernel
theorem d12_built_45 : decode b12_built 45 = .ok (.iload_n 3, 1) := by decide +kernel
theorem d12_built_46 : decode b12_built 46 = .ok (.aload_n 0, 1) := by decide +kernel
theorem d12_built_47 : decode b12_built 47 = .ok (.getfield 77, 3) := by decide +kernel
theorem d12_built_50 : decode b12_built 50 = .ok (.iload 4, 2) := by decide +kernel
theorem d12_built_52 : decode b12_built 52 = .ok (.iaload, 1) := by decide +kernel
theorem d12_built_53 : decode b12_built 53 = .ok (.iload_n 1, 1) := by decide +kernel
theorem d12_built_54 : decode b12_built 54 = .ok (.if_icmp .ne 7, 3) := by decide +kernel
theorem d12_built_57 : decode b12_built 57 = .ok (.iconst 1, 1) := by decide +kernel
theorem d12_built_58 : decode b12_built 58 = .ok (.goto 4, 3) := by decide +kernel
theorem d12_built_61 : decode b12_built 61 = .ok (.iconst 0, 1) := by decide +kernel
theorem d12_built_62 : decode b12_built 62 = .ok (.iadd, 1) := by decide +kernel
theorem d12_built_63 : decode b12_built 63 = .ok (.istore_n 3, 1) := by decide +kernel
theorem d12_built_64 : decode b12_built 64 = .ok (.iinc 4 1, 3) := by decide +kernel
theorem d12_built_67 : decode b12_built 67 = .ok (.goto (-31), 3) := by decide +kernel
theorem d12_built_70 : decode b12_built 70 = .ok (.iconst 0, 1) := by decide +kernel
theorem d12_built_71 : decode b12_built 71 = .ok (.istore 4, 2) := by decide +kernel
theorem d12_built_73 : decode b12_built 73 = .ok (.iload_n 1, 1) := by decide +kernel
theorem d12_built_74 : decode b12_built 74 = .ok (.istore 5, 2) := by decide +kernel
theorem d12_built_76 : decode b12_built 76 = .ok (.aload_n 0, 1) := by decide +kernel
theorem d12_built_77 : decode b12_built 77 = .ok (.getfield 77, 3) := by decide +kernel
theorem d12_built_80 : decode b12_built 80 = .ok (.iload 5, 2) := by decide +kernel
theorem d12_built_82 : decode b12_built 82 = .ok (.iaload, 1) := by decide +kernel
theorem d12_built_83 : decode b12_built 83 = .ok (.iconst (-1), 1) := by decide +kernel
theorem d12_built_84 : decode b12_built 84 = .ok (.if_icmp .eq 18, 3) := by decide +kernel
theorem d12_built_87 : decode b12_built 87 = .ok (.iinc 4 1, 3) := by decide +kernel
theorem d12_built_90 : decode b12_built 90 = .ok (.aload_n 0, 1) := by decide +kernel
theorem d12_built_91 : decode b12_built 91 = .ok (.getfield 77, 3) := by decide +kernel
theorem d12_built_94 : decode b12_built 94 = .ok (.iload 5, 2) := by decide +kernel
theorem d12_built_96 : decode b12_built 96 = .ok (.iaload, 1) := by decide +kernel
theorem d12_built_97 : decode b12_built 97 = .ok (.istore 5, 2) := by decide +kernel
theorem d12_built_99 : decode b12_built 99 = .ok (.goto (-23), 3) := by decide +kernel
theorem d12_built_102 : decode b12_built 102 = .ok (.iload_n 2, 1) := by decide +kernel
theorem d12_built_103 : decode b12_built 103 = .ok (.ifCond .ne 12, 3) := by decide +kernel
theorem d12_built_106 : decode b12_built 106 = .ok (.aload_n 0, 1) := by decide +kernel
theorem d12_built_107 : decode b12_built 107 = .ok (.getfield 77, 3) := by decide +kernel
theorem d12_built_110 : decode b12_built 110 = .ok (.iload_n 1, 1) := by decide +kernel
theorem d12_built_111 : decode b12_built 111 = .ok (.iaload, 1) := by decide +kernel
theorem d12_built_112 : decode b12_built 112 = .ok (.goto 42, 3) := by decide +kernel
theorem d12_built_115 : decode b12_built 115 = .ok (.iload_n 2, 1) := by decide +kernel
theorem d12_built_116 : decode b12_built 116 = .ok (.iconst 1, 1) := by decide +kernel
theorem d12_built_117 : decode b12_built 117 = .ok (.if_icmp .ne 12, 3) := by decide +kernel
theorem d12_built_120 : decode b12_built 120 = .ok (.aload_n 0, 1) := by decide +kernel
theorem d12_built_121 : decode b12_built 121 = .ok (.getfield 80, 3) := by decide +kernel
theorem d12_built_124 : decode b12_built 124 = .ok (.iload_n 1, 1) := by decide +kernel
theorem d12_built_125 : decode b12_built 125 = .ok (.iaload, 1) := by decide +kernel
theorem d12_built_126 : decode b12_built 126 = .ok (.goto 28, 3) := by decide +kernel
theorem d12_built_129 : decode b12_built 129 = .ok (.iload_n 2, 1) := by decide +kernel
theorem d12_built_130 : decode b12_built 130 = .ok (.iconst 2, 1) := by decide +kernel
theorem d12_built_131 : decode b12_built 131 = .ok (.if_icmp .ne 12, 3) := by decide +kernel
theorem d12_built_134 : decode b12_built 134 = .ok (.aload_n 0, 1) := by decide +kernel
theorem d12_built_135 : decode b12_built 135 = .ok (.getfield 83, 3) := by decide +kernel
theorem d12_built_138 : decode b12_built 138 = .ok (.iload_n 1, 1) := by decide +kernel
theorem d12_built_139 : decode b12_built 139 = .ok (.iaload, 1) := by decide +kernel
theorem d12_built_140 : decode b12_built 140 = .ok (.goto 14, 3) := by decide +kernel
theorem d12_built_143 : decode b12_built 143 = .ok (.iload_n 2, 1) := by decide +kernel
theorem d12_built_144 : decode b12_built 144 = .ok (.iconst 3, 1) := by decide +kernel
theorem d12_built_145 : decode b12_built 145 = .ok (.if_icmp .ne 7, 3) := by decide +kernel
theorem d12_built_148 : decode b12_built 148 = .ok (.iload_n 3, 1) := by decide +kernel
theorem d12_built_149 : decode b12_built 149 = .ok (.goto 5, 3) := by decide +kernel
theorem d12_built_152 : decode b12_built 152 = .ok (.iload 4, 2) := by decide +kernel
theorem d12_built_154 : decode b12_built 154 = .ok (.ireturn, 1) := by decide +kernel
theorem mk_12_344 : Cond.constantLong cn_12 344 (4) ∈ ce_cm := ce_cm_of (List.mem_of_getElem? (i := 1574) (by decide +kernel)) (by decide +kernel)
def f12_built_b36 (F : Nat) (x1 : Int32) (x2 : Int32) (x3 : Int32) (x4 : Int32) (h : Hp) : Option ((Int32 × Int32 × Hp) ⊕ (Int32 × Hp)) :=
  if (h 68 29) ≤ x4 then
    some (.inr (x3, h))
  else
    if ce_in x4 12 = true then
      if (h 90 (x4).toNatClampNeg) = x1 then
        some (.inl (x3 + (1 : Int32), x4 + (1 : Int32), h))
      else
        some (.inl (x3 + (0 : Int32), x4 + (1 : Int32), h))
    else none
set_option maxRecDepth 20000 in
theorem l12_built_36 (C : ce_Cx p s m args c meth b12_built 6 (some .int) cn_12 D ad cA B0 (ce_St aK aV B0)) (F : Nat) (x1 : Int32) (x2 : Int32)  (r : Int32 × Hp) (g : (Int32 × Hp) → Option (Int32 × Hp)) (hx : ∀ (x3 : Int32) (h : Hp) (H : Heap) (locs : List Loc) (ls : Array Slot), ce_H D ad cA B0 [] s h H locs → lv_has ls 6 [(0, .ref (ad 68)), (1, .int x1), (2, .int x2), (3, .int x3)] → g (x3, h) = some r → W p l e0 { frames := 1, cells := 0, slots := 0, locals := 25 } s m args below meth c H locs 0 0 (MQ below (ce_Q D ad cA B0 (ce_St aK aV B0) (some (.int r.1)) r.2) args s 0 0 (fun q => B0 ≤ q)) (F0 m 70 ls [])) : ∀ (n : Nat) (x3 : Int32) (x4 : Int32) (h : Hp) (H : Heap) (locs : List Loc) (ls : Array Slot), ce_H D ad cA B0 [] s h H locs → lv_has ls 6 [(0, .ref (ad 68)), (1, .int x1), (2, .int x2), (3, .int x3), (4, .int x4)] → Option.bind (ce_it (fun (st : Int32 × Int32 × Hp) => f12_built_b36 F x1 x2 st.1 st.2.1 st.2.2) n (x3, x4, h)) g = some r → W p l e0 { frames := 1, cells := 0, slots := 0, locals := 25 } s m args below meth c H locs 0 0 (MQ below (ce_Q D ad cA B0 (ce_St aK aV B0) (some (.int r.1)) r.2) args s 0 0 (fun q => B0 ≤ q)) (F0 m 36 ls []) := by
  intro n
  induction n with
  | zero =>
    intro x3 x4 h H locs ls hH hl e
    exact absurd e (fun z => by cases z)
  | succ n ih =>
    intro x3 x4 h H locs ls hH hl e
    have hx9 := C.1
    have hb := C.2.1
    have e : Option.bind (f12_built_b36 F x1 x2 x3 x4 h) _ = some r := ce_it_bd e
    unfold f12_built_b36 at e
    refine lv_iload hx9 hb d12_built_36 (lv_at hl 4 rfl) ?_
    refine lv_aload_n hx9 hb d12_built_38 rfl (lv_at hl 0 rfl) ?_
    refine gf_12_338 C hH d12_built_39 ?_
    refine lv_icmp_ge (tgt := 70) hx9 hb d12_built_42 (by decide) (fun hc42 => ?_) (fun hc42 => ?_)
    · have e := ce_if1 e hc42
      exact hx x3 h _ _ _ hH (lv_sub hl [0, 1, 2, 3] rfl) e
    · have e := ce_if0 e hc42
      refine lv_iload_n hx9 hb d12_built_45 rfl (lv_at hl 3 rfl) ?_
      refine lv_aload_n hx9 hb d12_built_46 rfl (lv_at hl 0 rfl) ?_
      refine gf_12_77 C hH d12_built_47 ?_
      refine lv_iload hx9 hb d12_built_50 (lv_at hl 4 rfl) ?_
      obtain ⟨hi52, e⟩ := ce_gd e
      refine ce_iald C hH lc_90.1 lc_90.2 (ce_in_vp hi52) d12_built_52 ?_
      refine lv_iload_n hx9 hb d12_built_53 rfl (lv_at hl 1 rfl) ?_
      refine lv_icmp_ne (tgt := 61) hx9 hb d12_built_54 (by decide) (fun hc54 => ?_) (fun hc54 => ?_)
      · have e := ce_if0 e hc54
        refine lv_iconst (v := (0 : Int32)) hx9 hb d12_built_61 (by decide) ?_
        refine lv_iadd hx9 hb d12_built_62 ?_
        refine lv_istore_n (lv' := [(3, .int (x3 + (0 : Int32))), (0, .ref (ad 68)), (1, .int x1), (2, .int x2), (4, .int x4)]) hx9 hb d12_built_63 rfl hl (by decide) rfl (fun ls hl => ?_)
        refine lv_iinc (v := x4 + (1 : Int32)) (lv' := [(4, .int (x4 + (1 : Int32))), (3, .int (x3 + (0 : Int32))), (0, .ref (ad 68)), (1, .int x1), (2, .int x2)]) hx9 hb d12_built_64 hl (k := 4) rfl rfl (by decide) rfl (fun ls hl => ?_)
        refine lv_goto (tgt := 36) hx9 hb d12_built_67 (by decide) ?_
        exact ih (x3 + (0 : Int32)) (x4 + (1 : Int32)) h _ _ _ hH (lv_sub hl [2, 3, 4, 1, 0] rfl) e
      · have e := ce_if1 e hc54
        refine lv_iconst (v := (1 : Int32)) hx9 hb d12_built_57 (by decide) ?_
        refine lv_goto (tgt := 62) hx9 hb d12_built_58 (by decide) ?_
        refine lv_iadd hx9 hb d12_built_62 ?_
        refine lv_istore_n (lv' := [(3, .int (x3 + (1 : Int32))), (0, .ref (ad 68)), (1, .int x1), (2, .int x2), (4, .int x4)]) hx9 hb d12_built_63 rfl hl (by decide) rfl (fun ls hl => ?_)
        refine lv_iinc (v := x4 + (1 : Int32)) (lv' := [(4, .int (x4 + (1 : Int32))), (3, .int (x3 + (1 : Int32))), (0, .ref (ad 68)), (1, .int x1), (2, .int x2)]) hx9 hb d12_built_64 hl (k := 4) rfl rfl (by decide) rfl (fun ls hl => ?_)
        refine lv_goto (tgt := 36) hx9 hb d12_built_67 (by decide) ?_
        exact ih (x3 + (1 : Int32)) (x4 + (1 : Int32)) h _ _ _ hH (lv_sub hl [2, 3, 4, 1, 0] rfl) e
def f12_built_b76 (F : Nat) (x1 : Int32) (x2 : Int32) (x3 : Int32) (x4 : Int32) (x5 : Int32) (h : Hp) : Option ((Int32 × Int32 × Hp) ⊕ (Int32 × Hp)) :=
  if ce_in x5 12 = true then
    if (h 90 (x5).toNatClampNeg) = (-1 : Int32) then
      some (.inr (x4, h))
    else
      if ce_in x5 12 = true then
        some (.inl (x4 + (1 : Int32), h 90 (x5).toNatClampNeg, h))
      else none
  else none
set_option maxRecDepth 20000 in
theorem l12_built_76 (C : ce_Cx p s m args c meth b12_built 6 (some .int) cn_12 D ad cA B0 (ce_St aK aV B0)) (F : Nat) (x1 : Int32) (x2 : Int32) (x3 : Int32)  (r : Int32 × Hp) (g : (Int32 × Hp) → Option (Int32 × Hp)) (hx : ∀ (x4 : Int32) (h : Hp) (H : Heap) (locs : List Loc) (ls : Array Slot), ce_H D ad cA B0 [] s h H locs → lv_has ls 6 [(0, .ref (ad 68)), (1, .int x1), (2, .int x2), (3, .int x3), (4, .int x4)] → g (x4, h) = some r → W p l e0 { frames := 1, cells := 0, slots := 0, locals := 25 } s m args below meth c H locs 0 0 (MQ below (ce_Q D ad cA B0 (ce_St aK aV B0) (some (.int r.1)) r.2) args s 0 0 (fun q => B0 ≤ q)) (F0 m 102 ls [])) : ∀ (n : Nat) (x4 : Int32) (x5 : Int32) (h : Hp) (H : Heap) (locs : List Loc) (ls : Array Slot), ce_H D ad cA B0 [] s h H locs → lv_has ls 6 [(0, .ref (ad 68)), (1, .int x1), (2, .int x2), (3, .int x3), (4, .int x4), (5, .int x5)] → Option.bind (ce_it (fun (st : Int32 × Int32 × Hp) => f12_built_b76 F x1 x2 x3 st.1 st.2.1 st.2.2) n (x4, x5, h)) g = some r → W p l e0 { frames := 1, cells := 0, slots := 0, locals := 25 } s m args below meth c H locs 0 0 (MQ below (ce_Q D ad cA B0 (ce_St aK aV B0) (some (.int r.1)) r.2) args s 0 0 (fun q => B0 ≤ q)) (F0 m 76 ls []) := by
  intro n
  induction n with
  | zero =>
    intro x4 x5 h H locs ls hH hl e
    exact absurd e (fun z => by cases z)
  | succ n ih =>
    intro x4 x5 h H locs ls hH hl e
    have hx9 := C.1
    have hb := C.2.1
    have e : Option.bind (f12_built_b76 F x1 x2 x3 x4 x5 h) _ = some r := ce_it_bd e
    unfold f12_built_b76 at e
    refine lv_aload_n hx9 hb d12_built_76 rfl (lv_at hl 0 rfl) ?_
    refine gf_12_77 C hH d12_built_77 ?_
    refine lv_iload hx9 hb d12_built_80 (lv_at hl 5 rfl) ?_
    obtain ⟨hi82, e⟩ := ce_gd e
    refine ce_iald C hH lc_90.1 lc_90.2 (ce_in_vp hi82) d12_built_82 ?_
    refine lv_iconst (v := (-1 : Int32)) hx9 hb d12_built_83 (by decide) ?_
    refine lv_icmp_eq (tgt := 102) hx9 hb d12_built_84 (by decide) (fun hc84 => ?_) (fun hc84 => ?_)
    · have e := ce_if1 e hc84
      exact hx x4 h _ _ _ hH (lv_sub hl [0, 1, 2, 3, 4] rfl) e
    · have e := ce_if0 e hc84
      refine lv_iinc (v := x4 + (1 : Int32)) (lv' := [(4, .int (x4 + (1 : Int32))), (0, .ref (ad 68)), (1, .int x1), (2, .int x2), (3, .int x3), (5, .int x5)]) hx9 hb d12_built_87 hl (k := 4) rfl rfl (by decide) rfl (fun ls hl => ?_)
      refine lv_aload_n hx9 hb d12_built_90 rfl (lv_at hl 1 rfl) ?_
      refine gf_12_77 C hH d12_built_91 ?_
      refine lv_iload hx9 hb d12_built_94 (lv_at hl 5 rfl) ?_
      obtain ⟨hi96, e⟩ := ce_gd e
      refine ce_iald C hH lc_90.1 lc_90.2 (ce_in_vp hi96) d12_built_96 ?_
      refine lv_istore (lv' := [(5, .int (h 90 (x5).toNatClampNeg)), (4, .int (x4 + (1 : Int32))), (0, .ref (ad 68)), (1, .int x1), (2, .int x2), (3, .int x3)]) hx9 hb d12_built_97 hl (by decide) rfl (fun ls hl => ?_)
      refine lv_goto (tgt := 76) hx9 hb d12_built_99 (by decide) ?_
      exact ih (x4 + (1 : Int32)) (h 90 (x5).toNatClampNeg) h _ _ _ hH (lv_sub hl [2, 3, 4, 5, 1, 0] rfl) e
def f12_built (F : Nat) (x1 : Int32) (x2 : Int32) (h : Hp) : Option (Int32 × Hp) :=
  Option.bind (f12_in F ((x1).toInt64) (0 : Int64) ((((h 68 29) - (1 : Int32))).toInt64) h) (fun o10 =>
    if o10.1 = 0 then
      some ((-2 : Int32), o10.2)
    else
      Option.bind (f12_in F ((x2).toInt64) (0 : Int64) (4 : Int64) o10.2) (fun o22 =>
        if o22.1 = 0 then
          some ((-2 : Int32), o22.2)
        else
          Option.bind (ce_it (fun (st : Int32 × Int32 × Hp) => f12_built_b36 F x1 x2 st.1 st.2.1 st.2.2) F ((0 : Int32), (0 : Int32), o22.2)) (fun o36 =>
            Option.bind (ce_it (fun (st : Int32 × Int32 × Hp) => f12_built_b76 F x1 x2 o36.1 st.1 st.2.1 st.2.2) F ((0 : Int32), x1, o36.2)) (fun o76 =>
              if x2 = 0 then
                if ce_in x1 12 = true then
                  some (o76.2 90 (x1).toNatClampNeg, o76.2)
                else none
              else
                if x2 = (1 : Int32) then
                  if ce_in x1 12 = true then
                    some (o76.2 91 (x1).toNatClampNeg, o76.2)
                  else none
                else
                  if x2 = (2 : Int32) then
                    if ce_in x1 12 = true then
                      some (o76.2 92 (x1).toNatClampNeg, o76.2)
                    else none
                  else
                    if x2 = (3 : Int32) then
                      some (o36.1, o76.2)
                    else
                      some (o76.1, o76.2)))))
set_option maxRecDepth 20000 in
theorem c12_built (l : Launch) (D : va_G) (ad : Nat → Nat) (cA : Nat → ClassId) (aK aV : Nat → Nat) (B0 : Nat) (hA : ce_Ad ad B0) (F : Nat) (x1 : Int32) (x2 : Int32)  (h : Hp) (r : Int32 × Hp) (e : f12_built F x1 x2 h = some r) : ce_Ct l D ad cA B0 (ce_St aK aV B0) y12_built b12_built 6 (some .int) 1 25 0 0 [.ref (ad 68), .int x1, .int x2] h (some (.int r.1)) r.2 := by
  refine ce_enter hA (by decide) rfl (Nat.le_of_ble_eq_true rfl) (fun p e0 s m below meth c ls C hH hl => ?_)
  have hl : lv_has ls 6 [(0, .ref (ad 68)), (1, .int x1), (2, .int x2)] := hl
  have hx := C.1
  have hb := C.2.1
  have e : Option.bind _ some = some r := (congrArg (fun z => Option.bind z some) e).trans rfl
  unfold f12_built at e
  refine lv_iload_n hx hb d12_built_0 rfl (lv_at hl 1 rfl) ?_
  refine lv_i2l (v := (x1).toInt64) hx hb d12_built_1 rfl ?_
  refine lv_lconst (v := (0 : Int64)) hx hb d12_built_2 (by decide) ?_
  refine lv_aload_n hx hb d12_built_3 rfl (lv_at hl 0 rfl) ?_
  refine gf_12_338 C hH d12_built_4 ?_
  refine lv_iconst (v := (1 : Int32)) hx hb d12_built_7 (by decide) ?_
  refine lv_isub hx hb d12_built_8 ?_
  refine lv_i2l (v := (((h 68 29) - (1 : Int32))).toInt64) hx hb d12_built_9 rfl ?_
  obtain ⟨o10, eo10, e⟩ := ce_bd e
  refine ce_callS (As := [.long ((x1).toInt64), .long (0 : Int64), .long ((((h 68 29) - (1 : Int32))).toInt64)]) (rest := []) C (ce_sok aK aV B0) hH (c12_in l D ad cA aK aV B0 C.2.2.2.2.2.2.1 F ((x1).toInt64) (0 : Int64) ((((h 68 29) - (1 : Int32))).toInt64)  h o10 eo10) mc12_in ml_12_98 mt12_in mI_12 (n := 3) (by decide) rfl ⟨Nat.le_of_ble_eq_true rfl, Nat.le_of_ble_eq_true rfl⟩ ⟨Nat.le_of_ble_eq_true rfl, Nat.le_of_ble_eq_true rfl⟩ hl.1 rfl (Nat.le_of_ble_eq_true rfl) d12_built_10 (fun H locs hH => ?_)
  refine W.eq (g2 := F0 m 13 ls [.int o10.1]) rfl ?_
  refine lv_if_eq (tgt := 28) hx hb d12_built_13 (by decide) (fun hc13 => ?_) (fun hc13 => ?_)
  · have e := ce_if1 e hc13
    refine lv_bipush (v := (-2 : Int32)) hx hb d12_built_28 (by decide) ?_
    exact ce_iretE C (ce_sok aK aV B0) hH e d12_built_30
  · have e := ce_if0 e hc13
    refine lv_iload_n hx hb d12_built_16 rfl (lv_at hl 2 rfl) ?_
    refine lv_i2l (v := (x2).toInt64) hx hb d12_built_17 rfl ?_
    refine lv_lconst (v := (0 : Int64)) hx hb d12_built_18 (by decide) ?_
    refine lv_ldc2 (v := (4 : Int64)) hx hb C.2.2.2.1 (C.2.2.2.2.1 _ mk_12_344) d12_built_19 ?_
    obtain ⟨o22, eo22, e⟩ := ce_bd e
    refine ce_callS (As := [.long ((x2).toInt64), .long (0 : Int64), .long (4 : Int64)]) (rest := []) C (ce_sok aK aV B0) hH (c12_in l D ad cA aK aV B0 C.2.2.2.2.2.2.1 F ((x2).toInt64) (0 : Int64) (4 : Int64)  o10.2 o22 eo22) mc12_in ml_12_98 mt12_in mI_12 (n := 3) (by decide) rfl ⟨Nat.le_of_ble_eq_true rfl, Nat.le_of_ble_eq_true rfl⟩ ⟨Nat.le_of_ble_eq_true rfl, Nat.le_of_ble_eq_true rfl⟩ hl.1 rfl (Nat.le_of_ble_eq_true rfl) d12_built_22 (fun H locs hH => ?_)
    refine W.eq (g2 := F0 m 25 ls [.int o22.1]) rfl ?_
    refine lv_if_ne (tgt := 31) hx hb d12_built_25 (by decide) (fun hc25 => ?_) (fun hc25 => ?_)
    · have e := ce_if0 e hc25
      refine lv_iconst (v := (0 : Int32)) hx hb d12_built_31 (by decide) ?_
      refine lv_istore_n (lv' := [(3, .int (0 : Int32)), (0, .ref (ad 68)), (1, .int x1), (2, .int x2)]) hx hb d12_built_32 rfl hl (by decide) rfl (fun ls hl => ?_)
      refine lv_iconst (v := (0 : Int32)) hx hb d12_built_33 (by decide) ?_
      refine lv_istore (lv' := [(4, .int (0 : Int32)), (3, .int (0 : Int32)), (0, .ref (ad 68)), (1, .int x1), (2, .int x2)]) hx hb d12_built_34 hl (by decide) rfl (fun ls hl => ?_)
      refine l12_built_36 C F x1 x2  r _ (fun y36_3 h_36 H locs ls hH hl e => ?_) F (0 : Int32) (0 : Int32) o22.2 _ _ _ hH (lv_sub hl [2, 3, 4, 1, 0] rfl) (ce_as e)
      try dsimp only at e
      refine lv_iconst (v := (0 : Int32)) hx hb d12_built_70 (by decide) ?_
      refine lv_istore (lv' := [(4, .int (0 : Int32)), (0, .ref (ad 68)), (1, .int x1), (2, .int x2), (3, .int y36_3)]) hx hb d12_built_71 hl (by decide) rfl (fun ls hl => ?_)
      refine lv_iload_n hx hb d12_built_73 rfl (lv_at hl 2 rfl) ?_
      refine lv_istore (lv' := [(5, .int x1), (4, .int (0 : Int32)), (0, .ref (ad 68)), (1, .int x1), (2, .int x2), (3, .int y36_3)]) hx hb d12_built_74 hl (by decide) rfl (fun ls hl => ?_)
      refine l12_built_76 C F x1 x2 y36_3  r _ (fun y76_4 h_76 H locs ls hH hl e => ?_) F (0 : Int32) x1 h_36 _ _ _ hH (lv_sub hl [2, 3, 4, 5, 1, 0] rfl) (ce_as e)
      try dsimp only at e
      refine lv_iload_n hx hb d12_built_102 rfl (lv_at hl 2 rfl) ?_
      refine lv_if_ne (tgt := 115) hx hb d12_built_103 (by decide) (fun hc103 => ?_) (fun hc103 => ?_)
      · have e := ce_if0 e hc103
        refine lv_iload_n hx hb d12_built_115 rfl (lv_at hl 2 rfl) ?_
        refine lv_iconst (v := (1 : Int32)) hx hb d12_built_116 (by decide) ?_
        refine lv_icmp_ne (tgt := 129) hx hb d12_built_117 (by decide) (fun hc117 => ?_) (fun hc117 => ?_)
        · have e := ce_if0 e hc117
          refine lv_iload_n hx hb d12_built_129 rfl (lv_at hl 2 rfl) ?_
          refine lv_iconst (v := (2 : Int32)) hx hb d12_built_130 (by decide) ?_
          refine lv_icmp_ne (tgt := 143) hx hb d12_built_131 (by decide) (fun hc131 => ?_) (fun hc131 => ?_)
          · have e := ce_if0 e hc131
            refine lv_iload_n hx hb d12_built_143 rfl (lv_at hl 2 rfl) ?_
            refine lv_iconst (v := (3 : Int32)) hx hb d12_built_144 (by decide) ?_
            refine lv_icmp_ne (tgt := 152) hx hb d12_built_145 (by decide) (fun hc145 => ?_) (fun hc145 => ?_)
            · have e := ce_if0 e hc145
              refine lv_iload hx hb d12_built_152 (lv_at hl 4 rfl) ?_
              exact ce_iretE C (ce_sok aK aV B0) hH e d12_built_154
            · have e := ce_if1 e hc145
              refine lv_iload_n hx hb d12_built_148 rfl (lv_at hl 3 rfl) ?_
              refine lv_goto (tgt := 154) hx hb d12_built_149 (by decide) ?_
              exact ce_iretE C (ce_sok aK aV B0) hH e d12_built_154
          · have e := ce_if1 e hc131
            refine lv_aload_n hx hb d12_built_134 rfl (lv_at hl 0 rfl) ?_
            refine gf_12_83 C hH d12_built_135 ?_
            refine lv_iload_n hx hb d12_built_138 rfl (lv_at hl 1 rfl) ?_
            obtain ⟨hi139, e⟩ := ce_gd e
            refine ce_iald C hH lc_92.1 lc_92.2 (ce_in_vp hi139) d12_built_139 ?_
            refine lv_goto (tgt := 154) hx hb d12_built_140 (by decide) ?_
            exact ce_iretE C (ce_sok aK aV B0) hH e d12_built_154
        · have e := ce_if1 e hc117
          refine lv_aload_n hx hb d12_built_120 rfl (lv_at hl 0 rfl) ?_
          refine gf_12_80 C hH d12_built_121 ?_
          refine lv_iload_n hx hb d12_built_124 rfl (lv_at hl 1 rfl) ?_
          obtain ⟨hi125, e⟩ := ce_gd e
          refine ce_iald C hH lc_91.1 lc_91.2 (ce_in_vp hi125) d12_built_125 ?_
          refine lv_goto (tgt := 154) hx hb d12_built_126 (by decide) ?_
          exact ce_iretE C (ce_sok aK aV B0) hH e d12_built_154
      · have e := ce_if1 e hc103
        refine lv_aload_n hx hb d12_built_106 rfl (lv_at hl 0 rfl) ?_
        refine gf_12_77 C hH d12_built_107 ?_
        refine lv_iload_n hx hb d12_built_110 rfl (lv_at hl 1 rfl) ?_
        obtain ⟨hi111, e⟩ := ce_gd e
        refine ce_iald C hH lc_90.1 lc_90.2 (ce_in_vp hi111) d12_built_111 ?_
        refine lv_goto (tgt := 154) hx hb d12_built_112 (by decide) ?_
        exact ce_iretE C (ce_sok aK aV B0) hH e d12_built_154
    · have e := ce_if1 e hc25
      refine lv_bipush (v := (-2 : Int32)) hx hb d12_built_28 (by decide) ?_
      exact ce_iretE C (ce_sok aK aV B0) hH e d12_built_30
abbrev b12_unlikeOf : ByteArray := prog_14_method_82_code
def y12_unlikeOf : MethodName := ⟨cn_12, "unlikeOf", "(II)I"⟩
theorem d12_unlikeOf_0 : decode b12_unlikeOf 0 = .ok (.iload_n 1, 1) := by decide +kernel
theorem d12_unlikeOf_1 : decode b12_unlikeOf 1 = .ok (.iconst (-1), 1) := by decide +kernel
theorem d12_unlikeOf_2 : decode b12_unlikeOf 2 = .ok (.if_icmp .ne 7, 3) := by decide +kernel
theorem d12_unlikeOf_5 : decode b12_unlikeOf 5 = .ok (.iconst 0, 1) := by decide +kernel
theorem d12_unlikeOf_6 : decode b12_unlikeOf 6 = .ok (.goto 11, 3) := by decide +kernel
theorem d12_unlikeOf_9 : decode b12_unlikeOf 9 = .ok (.aload_n 0, 1) := by decide +kernel
theorem d12_unlikeOf_10 : decode b12_unlikeOf 10 = .ok (.getfield 7, 3) := by decide +kernel
theorem d12_unlikeOf_13 : decode b12_unlikeOf 13 = .ok (.iconst 5, 1) := by decide +kernel
theorem d12_unlikeOf_14 : decode b12_unlikeOf 14 = .ok (.iload_n 1, 1) := by decide +kernel
theorem d12_unlikeOf_15 : decode b12_unlikeOf 15 = .ok (.iadd, 1) := by decide +kernel
theorem d12_unlikeOf_16 : decode b12_unlikeOf 16 = .ok (.iaload, 1) := by decide +kernel
theorem d12_unlikeOf_17 : decode b12_unlikeOf 17 = .ok (.istore_n 3, 1) := by decide +kernel
theorem d12_unlikeOf_18 : decode b12_unlikeOf 18 = .ok (.iload_n 2, 1) := by decide +kernel
theorem d12_unlikeOf_19 : decode b12_unlikeOf 19 = .ok (.aload_n 0, 1) := by decide +kernel
theorem d12_unlikeOf_20 : decode b12_unlikeOf 20 = .ok (.getfield 338, 3) := by decide +kernel
theorem d12_unlikeOf_23 : decode b12_unlikeOf 23 = .ok (.if_icmp .ge 12, 3) := by decide +kernel
theorem d12_unlikeOf_26 : decode b12_unlikeOf 26 = .ok (.aload_n 0, 1) := by decide +kernel
theorem d12_unlikeOf_27 : decode b12_unlikeOf 27 = .ok (.getfield 65, 3) := by decide +kernel
theorem d12_unlikeOf_30 : decode b12_unlikeOf 30 = .ok (.iload_n 2, 1) := by decide +kernel
theorem d12_unlikeOf_31 : decode b12_unlikeOf 31 = .ok (.iaload, 1) := by decide +kernel
theorem d12_unlikeOf_32 : decode b12_unlikeOf 32 = .ok (.goto 4, 3) := by decide +kernel
theorem d12_unlikeOf_35 : decode b12_unlikeOf 35 = .ok (.iconst 0, 1) := by decide +kernel
theorem d12_unlikeOf_36 : decode b12_unlikeOf 36 = .ok (.istore 4, 2) := by decide +kernel
theorem d12_unlikeOf_38 : decode b12_unlikeOf 38 = .ok (.iload_n 3, 1) := by decide +kernel
theorem d12_unlikeOf_39 : decode b12_unlikeOf 39 = .ok (.iload 4, 2) := by decide +kernel
theorem d12_unlikeOf_41 : decode b12_unlikeOf 41 = .ok (.invokestatic 189, 3) := by decide +kernel
theorem d12_unlikeOf_44 : decode b12_unlikeOf 44 = .ok (.iload_n 3, 1) := by decide +kernel
theorem d12_unlikeOf_45 : decode b12_unlikeOf 45 = .ok (.iload 4, 2) := by decide +kernel
theorem d12_unlikeOf_47 : decode b12_unlikeOf 47 = .ok (.invokestatic 119, 3) := by decide +kernel
theorem d12_unlikeOf_50 : decode b12_unlikeOf 50 = .ok (.isub, 1) := by decide +kernel
theorem d12_unlikeOf_51 : decode b12_unlikeOf 51 = .ok (.istore 5, 2) := by decide +kernel
theorem d12_unlikeOf_53 : decode b12_unlikeOf 53 = .ok (.iconst 0, 1) := by decide +kernel
theorem d12_unlikeOf_54 : decode b12_unlikeOf 54 = .ok (.istore 6, 2) := by decide +kernel
theorem d12_unlikeOf_56 : decode b12_unlikeOf 56 = .ok (.iload 6, 2) := by decide +kernel
theorem d12_unlikeOf_58 : decode b12_unlikeOf 58 = .ok (.iload_n 3, 1) := by decide +kernel
theorem d12_unlikeOf_59 : decode b12_unlikeOf 59 = .ok (.if_icmp .ge 47, 3) := by decide +kernel
theorem d12_unlikeOf_62 : decode b12_unlikeOf 62 = .ok (.iload 6, 2) := by decide +kernel
theorem d12_unlikeOf_64 : decode b12_unlikeOf 64 = .ok (.iload 4, 2) := by decide +kernel
theorem d12_unlikeOf_66 : decode b12_unlikeOf 66 = .ok (.if_icmp .ge 40, 3) := by decide +kernel
theorem d12_unlikeOf_69 : decode b12_unlikeOf 69 = .ok (.iload 5, 2) := by decide +kernel
theorem d12_unlikeOf_71 : decode b12_unlikeOf 71 = .ok (.aload_n 0, 1) := by decide +kernel
theorem d12_unlikeOf_72 : decode b12_unlikeOf 72 = .ok (.iload_n 1, 1) := by decide +kernel
theorem d12_unlikeOf_73 : decode b12_unlikeOf 73 = .ok (.iload 6, 2) := by decide +kernel
theorem d12_unlikeOf_75 : decode b12_unlikeOf 75 = .ok (.invokevirtual 316, 3) := by decide +kernel
theorem d12_unlikeOf_78 : decode b12_unlikeOf 78 = .ok (.aload_n 0, 1) := by decide +kernel
theorem d12_unlikeOf_79 : decode b12_unlikeOf 79 = .ok (.getfield 68, 3) := by decide +kernel
theorem d12_unlikeOf_82 : decode b12_unlikeOf 82 = .ok (.iconst 4, 1) := by decide +kernel
theorem d12_unlikeOf_83 : decode b12_unlikeOf 83 = .ok (.iload_n 2, 1) := by decide +kernel
theorem d12_unlikeOf_84 : decode b12_unlikeOf 84 = .ok (.imul, 1) := by decide +kernel
theorem d12_unlikeOf_85 : decode b12_unlikeOf 85 = .ok (.iload 6, 2) := by decide +kernel
theorem d12_unlikeOf_87 : decode b12_unlikeOf 87 = .ok (.iadd, 1) := by decide +kernel
theorem d12_unlikeOf_88 : decode b12_unlikeOf 88 = .ok (.iaload, 1) := by decide +kernel
theorem d12_unlikeOf_89 : decode b12_unlikeOf 89 = .ok (.if_icmp .ne 7, 3) := by decide +kernel
theorem d12_unlikeOf_92 : decode b12_unlikeOf 92 = .ok (.iconst 0, 1) := by decide +kernel
theorem d12_unlikeOf_93 : decode b12_unlikeOf 93 = .ok (.goto 4, 3) := by decide +kernel
theorem d12_unlikeOf_96 : decode b12_unlikeOf 96 = .ok (.iconst 1, 1) := by decide +kernel
theorem d12_unlikeOf_97 : decode b12_unlikeOf 97 = .ok (.iadd, 1) := by decide +kernel
theorem d12_unlikeOf_98 : decode b12_unlikeOf 98 = .ok (.istore 5, 2) := by decide +kernel
theorem d12_unlikeOf_100 : decode b12_unlikeOf 100 = .ok (.iinc 6 1, 3) := by decide +kernel
theorem d12_unlikeOf_103 : decode b12_unlikeOf 103 = .ok (.goto (-47), 3) := by decide +kernel
theorem d12_unlikeOf_106 : decode b12_unlikeOf 106 = .ok (.iload 5, 2) := by decide +kernel
theorem d12_unlikeOf_108 : decode b12_unlikeOf 108 = .ok (.ireturn, 1) := by decide +kernel
def f12_unlikeOf_b56 (F : Nat) (x1 : Int32) (x2 : Int32) (x3 : Int32) (x4 : Int32) (x5 : Int32) (x6 : Int32) (h : Hp) : Option ((Int32 × Int32 × Hp) ⊕ (Int32 × Hp)) :=
  if x3 ≤ x6 then
    some (.inr (x5, h))
  else
    if x4 ≤ x6 then
      some (.inr (x5, h))
    else
      Option.bind (f12_letterOf F x1 x6 h) (fun o75 =>
        if ce_in (((4 : Int32) * x2) + x6) 48 = true then
          if o75.1 = (o75.2 87 ((((4 : Int32) * x2) + x6)).toNatClampNeg) then
            some (.inl (x5 + (0 : Int32), x6 + (1 : Int32), o75.2))
          else
            some (.inl (x5 + (1 : Int32), x6 + (1 : Int32), o75.2))
        else none)
set_option maxRecDepth 20000 in
theorem l12_unlikeOf_56 (C : ce_Cx p s m args c meth b12_unlikeOf 7 (some .int) cn_12 D ad cA B0 (ce_St aK aV B0)) (F : Nat) (x1 : Int32) (x2 : Int32) (x3 : Int32) (x4 : Int32)  (r : Int32 × Hp) (g : (Int32 × Hp) → Option (Int32 × Hp)) (hx : ∀ (x5 : Int32) (h : Hp) (H : Heap) (locs : List Loc) (ls : Array Slot), ce_H D ad cA B0 [] s h H locs → lv_has ls 7 [(5, .int x5)] → g (x5, h) = some r → W p l e0 { frames := 2, cells := 0, slots := 0, locals := 44 } s m args below meth c H locs 0 0 (MQ below (ce_Q D ad cA B0 (ce_St aK aV B0) (some (.int r.1)) r.2) args s 0 0 (fun q => B0 ≤ q)) (F0 m 106 ls [])) : ∀ (n : Nat) (x5 : Int32) (x6 : Int32) (h : Hp) (H : Heap) (locs : List Loc) (ls : Array Slot), ce_H D ad cA B0 [] s h H locs → lv_has ls 7 [(0, .ref (ad 68)), (1, .int x1), (2, .int x2), (3, .int x3), (4, .int x4), (5, .int x5), (6, .int x6)] → Option.bind (ce_it (fun (st : Int32 × Int32 × Hp) => f12_unlikeOf_b56 F x1 x2 x3 x4 st.1 st.2.1 st.2.2) n (x5, x6, h)) g = some r → W p l e0 { frames := 2, cells := 0, slots := 0, locals := 44 } s m args below meth c H locs 0 0 (MQ below (ce_Q D ad cA B0 (ce_St aK aV B0) (some (.int r.1)) r.2) args s 0 0 (fun q => B0 ≤ q)) (F0 m 56 ls []) := by
  intro n
  induction n with
  | zero =>
    intro x5 x6 h H locs ls hH hl e
    exact absurd e (fun z => by cases z)
  | succ n ih =>
    intro x5 x6 h H locs ls hH hl e
    have hx9 := C.1
    have hb := C.2.1
    have e : Option.bind (f12_unlikeOf_b56 F x1 x2 x3 x4 x5 x6 h) _ = some r := ce_it_bd e
    unfold f12_unlikeOf_b56 at e
    refine lv_iload hx9 hb d12_unlikeOf_56 (lv_at hl 6 rfl) ?_
    refine lv_iload_n hx9 hb d12_unlikeOf_58 rfl (lv_at hl 3 rfl) ?_
    refine lv_icmp_ge (tgt := 106) hx9 hb d12_unlikeOf_59 (by decide) (fun hc59 => ?_) (fun hc59 => ?_)
    · have e := ce_if1 e hc59
      exact hx x5 h _ _ _ hH (lv_sub hl [5] rfl) e
    · have e := ce_if0 e hc59
      refine lv_iload hx9 hb d12_unlikeOf_62 (lv_at hl 6 rfl) ?_
      refine lv_iload hx9 hb d12_unlikeOf_64 (lv_at hl 4 rfl) ?_
      refine lv_icmp_ge (tgt := 106) hx9 hb d12_unlikeOf_66 (by decide) (fun hc66 => ?_) (fun hc66 => ?_)
      · have e := ce_if1 e hc66
        exact hx x5 h _ _ _ hH (lv_sub hl [5] rfl) e
      · have e := ce_if0 e hc66
        refine lv_iload hx9 hb d12_unlikeOf_69 (lv_at hl 5 rfl) ?_
        refine lv_aload_n hx9 hb d12_unlikeOf_71 rfl (lv_at hl 0 rfl) ?_
        refine lv_iload_n hx9 hb d12_unlikeOf_72 rfl (lv_at hl 1 rfl) ?_
        refine lv_iload hx9 hb d12_unlikeOf_73 (lv_at hl 6 rfl) ?_
        obtain ⟨o75, eo75, e⟩ := ce_bd e
        refine ce_callV (As := [.int x1, .int x6]) (rest := [.int x5]) C (ce_sok aK aV B0) hH (c12_letterOf l D ad cA aK aV B0 C.2.2.2.2.2.2.1 F x1 x6  h o75 eo75) lo_68.1 lo_68.2.choose_spec rfl rfl mc12_letterOf ml_12_316 mi12_letterOf ms12_letterOf mI_12 (n := 2) (by decide) rfl ⟨Nat.le_of_ble_eq_true rfl, Nat.le_of_ble_eq_true rfl⟩ ⟨Nat.le_of_ble_eq_true rfl, Nat.le_of_ble_eq_true rfl⟩ hl.1 rfl (Nat.le_of_ble_eq_true rfl) d12_unlikeOf_75 (fun H locs hH => ?_)
        refine W.eq (g2 := F0 m 78 ls [.int o75.1, .int x5]) rfl ?_
        refine lv_aload_n hx9 hb d12_unlikeOf_78 rfl (lv_at hl 0 rfl) ?_
        refine gf_12_68 C hH d12_unlikeOf_79 ?_
        refine lv_iconst (v := (4 : Int32)) hx9 hb d12_unlikeOf_82 (by decide) ?_
        refine lv_iload_n hx9 hb d12_unlikeOf_83 rfl (lv_at hl 2 rfl) ?_
        refine lv_imul hx9 hb d12_unlikeOf_84 ?_
        refine lv_iload hx9 hb d12_unlikeOf_85 (lv_at hl 6 rfl) ?_
        refine lv_iadd hx9 hb d12_unlikeOf_87 ?_
        obtain ⟨hi88, e⟩ := ce_gd e
        refine ce_iald C hH lc_87.1 lc_87.2 (ce_in_vp hi88) d12_unlikeOf_88 ?_
        refine lv_icmp_ne (tgt := 96) hx9 hb d12_unlikeOf_89 (by decide) (fun hc89 => ?_) (fun hc89 => ?_)
        · have e := ce_if0 e hc89
          refine lv_iconst (v := (1 : Int32)) hx9 hb d12_unlikeOf_96 (by decide) ?_
          refine lv_iadd hx9 hb d12_unlikeOf_97 ?_
          refine lv_istore (lv' := [(5, .int (x5 + (1 : Int32))), (0, .ref (ad 68)), (1, .int x1), (2, .int x2), (3, .int x3), (4, .int x4), (6, .int x6)]) hx9 hb d12_unlikeOf_98 hl (by decide) rfl (fun ls hl => ?_)
          refine lv_iinc (v := x6 + (1 : Int32)) (lv' := [(6, .int (x6 + (1 : Int32))), (5, .int (x5 + (1 : Int32))), (0, .ref (ad 68)), (1, .int x1), (2, .int x2), (3, .int x3), (4, .int x4)]) hx9 hb d12_unlikeOf_100 hl (k := 6) rfl rfl (by decide) rfl (fun ls hl => ?_)
          refine lv_goto (tgt := 56) hx9 hb d12_unlikeOf_103 (by decide) ?_
          exact ih (x5 + (1 : Int32)) (x6 + (1 : Int32)) o75.2 _ _ _ hH (lv_sub hl [2, 3, 4, 5, 6, 1, 0] rfl) e
        · have e := ce_if1 e hc89
          refine lv_iconst (v := (0 : Int32)) hx9 hb d12_unlikeOf_92 (by decide) ?_
          refine lv_goto (tgt := 97) hx9 hb d12_unlikeOf_93 (by decide) ?_
          refine lv_iadd hx9 hb d12_unlikeOf_97 ?_
          refine lv_istore (lv' := [(5, .int (x5 + (0 : Int32))), (0, .ref (ad 68)), (1, .int x1), (2, .int x2), (3, .int x3), (4, .int x4), (6, .int x6)]) hx9 hb d12_unlikeOf_98 hl (by decide) rfl (fun ls hl => ?_)
          refine lv_iinc (v := x6 + (1 : Int32)) (lv' := [(6, .int (x6 + (1 : Int32))), (5, .int (x5 + (0 : Int32))), (0, .ref (ad 68)), (1, .int x1), (2, .int x2), (3, .int x3), (4, .int x4)]) hx9 hb d12_unlikeOf_100 hl (k := 6) rfl rfl (by decide) rfl (fun ls hl => ?_)
          refine lv_goto (tgt := 56) hx9 hb d12_unlikeOf_103 (by decide) ?_
          exact ih (x5 + (0 : Int32)) (x6 + (1 : Int32)) o75.2 _ _ _ hH (lv_sub hl [2, 3, 4, 5, 6, 1, 0] rfl) e
def f12_unlikeOf_j17 (F : Nat) (x1 : Int32) (x2 : Int32) (s0 : Int32) (h : Hp) : Option (Int32 × Hp) :=
  if (h 68 29) ≤ x2 then
    Option.bind (ce_it (fun (st : Int32 × Int32 × Hp) => f12_unlikeOf_b56 F x1 x2 s0 (0 : Int32) st.1 st.2.1 st.2.2) F ((if s0 < (0 : Int32) then (0 : Int32) else s0) - (if (0 : Int32) < s0 then (0 : Int32) else s0), (0 : Int32), h)) (fun o56 =>
      some (o56.1, o56.2))
  else
    if ce_in x2 12 = true then
      Option.bind (ce_it (fun (st : Int32 × Int32 × Hp) => f12_unlikeOf_b56 F x1 x2 s0 (h 86 (x2).toNatClampNeg) st.1 st.2.1 st.2.2) F ((if s0 < (h 86 (x2).toNatClampNeg) then (h 86 (x2).toNatClampNeg) else s0) - (if (h 86 (x2).toNatClampNeg) < s0 then (h 86 (x2).toNatClampNeg) else s0), (0 : Int32), h)) (fun o56 =>
        some (o56.1, o56.2))
    else none
set_option maxRecDepth 20000 in
theorem j12_unlikeOf_17 (C : ce_Cx p s m args c meth b12_unlikeOf 7 (some .int) cn_12 D ad cA B0 (ce_St aK aV B0)) (F : Nat) (x1 : Int32) (x2 : Int32) (s0 : Int32)  (r : Int32 × Hp) (h : Hp) (H : Heap) (locs : List Loc) (ls : Array Slot) (hH : ce_H D ad cA B0 [] s h H locs) (hl : lv_has ls 7 [(0, .ref (ad 68)), (1, .int x1), (2, .int x2)]) (e : Option.bind (f12_unlikeOf_j17 F x1 x2 s0 h) some = some r) : W p l e0 { frames := 2, cells := 0, slots := 0, locals := 44 } s m args below meth c H locs 0 0 (MQ below (ce_Q D ad cA B0 (ce_St aK aV B0) (some (.int r.1)) r.2) args s 0 0 (fun q => B0 ≤ q)) (F0 m 17 ls [.int s0]) := by
  have hx9 := C.1
  have hb := C.2.1
  unfold f12_unlikeOf_j17 at e
  refine lv_istore_n (lv' := [(3, .int s0), (0, .ref (ad 68)), (1, .int x1), (2, .int x2)]) hx9 hb d12_unlikeOf_17 rfl hl (by decide) rfl (fun ls hl => ?_)
  refine lv_iload_n hx9 hb d12_unlikeOf_18 rfl (lv_at hl 3 rfl) ?_
  refine lv_aload_n hx9 hb d12_unlikeOf_19 rfl (lv_at hl 1 rfl) ?_
  refine gf_12_338 C hH d12_unlikeOf_20 ?_
  refine lv_icmp_ge (tgt := 35) hx9 hb d12_unlikeOf_23 (by decide) (fun hc23 => ?_) (fun hc23 => ?_)
  · have e := ce_if1 e hc23
    refine lv_iconst (v := (0 : Int32)) hx9 hb d12_unlikeOf_35 (by decide) ?_
    refine lv_istore (lv' := [(4, .int (0 : Int32)), (3, .int s0), (0, .ref (ad 68)), (1, .int x1), (2, .int x2)]) hx9 hb d12_unlikeOf_36 hl (by decide) rfl (fun ls hl => ?_)
    refine lv_iload_n hx9 hb d12_unlikeOf_38 rfl (lv_at hl 1 rfl) ?_
    refine lv_iload hx9 hb d12_unlikeOf_39 (lv_at hl 0 rfl) ?_
    refine va_mmax hx9 hb (C.2.2.1.trans hl.1.symm) C.2.2.2.1 (C.2.2.2.2.1 _ ml_12_189) (C.2.2.2.2.1 _ mt_Mmax) (C.2.2.2.2.1 _ mI_M) (C.2.2.2.2.1 _ mc_Mmax) (Nat.le_of_ble_eq_true rfl) (Nat.le_of_ble_eq_true rfl) (Nat.le_of_ble_eq_true rfl) (Nat.le_of_ble_eq_true rfl) d12_unlikeOf_41 ?_
    refine lv_iload_n hx9 hb d12_unlikeOf_44 rfl (lv_at hl 1 rfl) ?_
    refine lv_iload hx9 hb d12_unlikeOf_45 (lv_at hl 0 rfl) ?_
    refine va_mmin hx9 hb (C.2.2.1.trans hl.1.symm) C.2.2.2.1 (C.2.2.2.2.1 _ ml_12_119) (C.2.2.2.2.1 _ mt_Mmin) (C.2.2.2.2.1 _ mI_M) (C.2.2.2.2.1 _ mc_Mmin) (Nat.le_of_ble_eq_true rfl) (Nat.le_of_ble_eq_true rfl) (Nat.le_of_ble_eq_true rfl) (Nat.le_of_ble_eq_true rfl) d12_unlikeOf_47 ?_
    refine lv_isub hx9 hb d12_unlikeOf_50 ?_
    refine lv_istore (lv' := [(5, .int ((if s0 < (0 : Int32) then (0 : Int32) else s0) - (if (0 : Int32) < s0 then (0 : Int32) else s0))), (4, .int (0 : Int32)), (3, .int s0), (0, .ref (ad 68)), (1, .int x1), (2, .int x2)]) hx9 hb d12_unlikeOf_51 hl (by decide) rfl (fun ls hl => ?_)
    refine lv_iconst (v := (0 : Int32)) hx9 hb d12_unlikeOf_53 (by decide) ?_
    refine lv_istore (lv' := [(6, .int (0 : Int32)), (5, .int ((if s0 < (0 : Int32) then (0 : Int32) else s0) - (if (0 : Int32) < s0 then (0 : Int32) else s0))), (4, .int (0 : Int32)), (3, .int s0), (0, .ref (ad 68)), (1, .int x1), (2, .int x2)]) hx9 hb d12_unlikeOf_54 hl (by decide) rfl (fun ls hl => ?_)
    refine l12_unlikeOf_56 C F x1 x2 s0 (0 : Int32)  r _ (fun y56_5 h_56 H locs ls hH hl e => ?_) F ((if s0 < (0 : Int32) then (0 : Int32) else s0) - (if (0 : Int32) < s0 then (0 : Int32) else s0)) (0 : Int32) h _ _ _ hH (lv_sub hl [4, 5, 6, 3, 2, 1, 0] rfl) (ce_as e)
    try dsimp only at e
    refine lv_iload hx9 hb d12_unlikeOf_106 (lv_at hl 0 rfl) ?_
    exact ce_iretE C (ce_sok aK aV B0) hH e d12_unlikeOf_108
  · have e := ce_if0 e hc23
    refine lv_aload_n hx9 hb d12_unlikeOf_26 rfl (lv_at hl 1 rfl) ?_
    refine gf_12_65 C hH d12_unlikeOf_27 ?_
    refine lv_iload_n hx9 hb d12_unlikeOf_30 rfl (lv_at hl 3 rfl) ?_
    obtain ⟨hi31, e⟩ := ce_gd e
    refine ce_iald C hH lc_86.1 lc_86.2 (ce_in_vp hi31) d12_unlikeOf_31 ?_
    refine lv_goto (tgt := 36) hx9 hb d12_unlikeOf_32 (by decide) ?_
    refine lv_istore (lv' := [(4, .int (h 86 (x2).toNatClampNeg)), (3, .int s0), (0, .ref (ad 68)), (1, .int x1), (2, .int x2)]) hx9 hb d12_unlikeOf_36 hl (by decide) rfl (fun ls hl => ?_)
    refine lv_iload_n hx9 hb d12_unlikeOf_38 rfl (lv_at hl 1 rfl) ?_
    refine lv_iload hx9 hb d12_unlikeOf_39 (lv_at hl 0 rfl) ?_
    refine va_mmax hx9 hb (C.2.2.1.trans hl.1.symm) C.2.2.2.1 (C.2.2.2.2.1 _ ml_12_189) (C.2.2.2.2.1 _ mt_Mmax) (C.2.2.2.2.1 _ mI_M) (C.2.2.2.2.1 _ mc_Mmax) (Nat.le_of_ble_eq_true rfl) (Nat.le_of_ble_eq_true rfl) (Nat.le_of_ble_eq_true rfl) (Nat.le_of_ble_eq_true rfl) d12_unlikeOf_41 ?_
    refine lv_iload_n hx9 hb d12_unlikeOf_44 rfl (lv_at hl 1 rfl) ?_
    refine lv_iload hx9 hb d12_unlikeOf_45 (lv_at hl 0 rfl) ?_
    refine va_mmin hx9 hb (C.2.2.1.trans hl.1.symm) C.2.2.2.1 (C.2.2.2.2.1 _ ml_12_119) (C.2.2.2.2.1 _ mt_Mmin) (C.2.2.2.2.1 _ mI_M) (C.2.2.2.2.1 _ mc_Mmin) (Nat.le_of_ble_eq_true rfl) (Nat.le_of_ble_eq_true rfl) (Nat.le_of_ble_eq_true rfl) (Nat.le_of_ble_eq_true rfl) d12_unlikeOf_47 ?_
    refine lv_isub hx9 hb d12_unlikeOf_50 ?_
    refine lv_istore (lv' := [(5, .int ((if s0 < (h 86 (x2).toNatClampNeg) then (h 86 (x2).toNatClampNeg) else s0) - (if (h 86 (x2).toNatClampNeg) < s0 then (h 86 (x2).toNatClampNeg) else s0))), (4, .int (h 86 (x2).toNatClampNeg)), (3, .int s0), (0, .ref (ad 68)), (1, .int x1), (2, .int x2)]) hx9 hb d12_unlikeOf_51 hl (by decide) rfl (fun ls hl => ?_)
    refine lv_iconst (v := (0 : Int32)) hx9 hb d12_unlikeOf_53 (by decide) ?_
    refine lv_istore (lv' := [(6, .int (0 : Int32)), (5, .int ((if s0 < (h 86 (x2).toNatClampNeg) then (h 86 (x2).toNatClampNeg) else s0) - (if (h 86 (x2).toNatClampNeg) < s0 then (h 86 (x2).toNatClampNeg) else s0))), (4, .int (h 86 (x2).toNatClampNeg)), (3, .int s0), (0, .ref (ad 68)), (1, .int x1), (2, .int x2)]) hx9 hb d12_unlikeOf_54 hl (by decide) rfl (fun ls hl => ?_)
    refine l12_unlikeOf_56 C F x1 x2 s0 (h 86 (x2).toNatClampNeg)  r _ (fun y56_5 h_56 H locs ls hH hl e => ?_) F ((if s0 < (h 86 (x2).toNatClampNeg) then (h 86 (x2).toNatClampNeg) else s0) - (if (h 86 (x2).toNatClampNeg) < s0 then (h 86 (x2).toNatClampNeg) else s0)) (0 : Int32) h _ _ _ hH (lv_sub hl [4, 5, 6, 3, 2, 1, 0] rfl) (ce_as e)
    try dsimp only at e
    refine lv_iload hx9 hb d12_unlikeOf_106 (lv_at hl 0 rfl) ?_
    exact ce_iretE C (ce_sok aK aV B0) hH e d12_unlikeOf_108
def f12_unlikeOf (F : Nat) (x1 : Int32) (x2 : Int32) (h : Hp) : Option (Int32 × Hp) :=
  if x1 = (-1 : Int32) then
    f12_unlikeOf_j17 F x1 x2 (0 : Int32) h
  else
    if ce_in ((5 : Int32) + x1) 125 = true then
      f12_unlikeOf_j17 F x1 x2 (h 69 (((5 : Int32) + x1)).toNatClampNeg) h
    else none
set_option maxRecDepth 20000 in
theorem c12_unlikeOf (l : Launch) (D : va_G) (ad : Nat → Nat) (cA : Nat → ClassId) (aK aV : Nat → Nat) (B0 : Nat) (hA : ce_Ad ad B0) (F : Nat) (x1 : Int32) (x2 : Int32)  (h : Hp) (r : Int32 × Hp) (e : f12_unlikeOf F x1 x2 h = some r) : ce_Ct l D ad cA B0 (ce_St aK aV B0) y12_unlikeOf b12_unlikeOf 7 (some .int) 2 44 0 0 [.ref (ad 68), .int x1, .int x2] h (some (.int r.1)) r.2 := by
  refine ce_enter hA (by decide) rfl (Nat.le_of_ble_eq_true rfl) (fun p e0 s m below meth c ls C hH hl => ?_)
  have hl : lv_has ls 7 [(0, .ref (ad 68)), (1, .int x1), (2, .int x2)] := hl
  have hx := C.1
  have hb := C.2.1
  have e : Option.bind _ some = some r := (congrArg (fun z => Option.bind z some) e).trans rfl
  unfold f12_unlikeOf at e
  refine lv_iload_n hx hb d12_unlikeOf_0 rfl (lv_at hl 1 rfl) ?_
  refine lv_iconst (v := (-1 : Int32)) hx hb d12_unlikeOf_1 (by decide) ?_
  refine lv_icmp_ne (tgt := 9) hx hb d12_unlikeOf_2 (by decide) (fun hc2 => ?_) (fun hc2 => ?_)
  · have e := ce_if0 e hc2
    refine lv_aload_n hx hb d12_unlikeOf_9 rfl (lv_at hl 0 rfl) ?_
    refine gf_12_7 C hH d12_unlikeOf_10 ?_
    refine lv_iconst (v := (5 : Int32)) hx hb d12_unlikeOf_13 (by decide) ?_
    refine lv_iload_n hx hb d12_unlikeOf_14 rfl (lv_at hl 1 rfl) ?_
    refine lv_iadd hx hb d12_unlikeOf_15 ?_
    obtain ⟨hi16, e⟩ := ce_gd e
    refine ce_iald C hH lc_69.1 lc_69.2 (ce_in_vp hi16) d12_unlikeOf_16 ?_
    exact j12_unlikeOf_17 C F x1 x2 (h 69 (((5 : Int32) + x1)).toNatClampNeg)  r h _ _ _ hH (lv_sub hl [0, 1, 2] rfl) e
  · have e := ce_if1 e hc2
    refine lv_iconst (v := (0 : Int32)) hx hb d12_unlikeOf_5 (by decide) ?_
    refine lv_goto (tgt := 17) hx hb d12_unlikeOf_6 (by decide) ?_
    exact j12_unlikeOf_17 C F x1 x2 (0 : Int32)  r h _ _ _ hH (lv_sub hl [0, 1, 2] rfl) e
abbrev b12_unlike : ByteArray := prog_14_method_83_code
def y12_unlike : MethodName := ⟨cn_12, "unlike", "(I)I"⟩
theorem d12_unlike_0 : decode b12_unlike 0 = .ok (.aload_n 0, 1) := by decide +kernel
theorem d12_unlike_1 : decode b12_unlike 1 = .ok (.iload_n 1, 1) := by decide +kernel
theorem d12_unlike_2 : decode b12_unlike 2 = .ok (.invokevirtual 267, 3) := by decide +kernel
theorem d12_unlike_5 : decode b12_unlike 5 = .ok (.istore_n 2, 1) := by decide +kernel
theorem d12_unlike_6 : decode b12_unlike 6 = .ok (.iload_n 2, 1) := by decide +kernel
theorem d12_unlike_7 : decode b12_unlike 7 = .ok (.ifCond .ge 5, 3) := by decide +kernel
theorem d12_unlike_10 : decode b12_unlike 10 = .ok (.iload_n 2, 1) := by decide +kernel
theorem d12_unlike_11 : decode b12_unlike 11 = .ok (.ireturn, 1) := by decide +kernel
theorem d12_unlike_12 : decode b12_unlike 12 = .ok (.aload_n 0, 1) := by decide +kernel
theorem d12_unlike_13 : decode b12_unlike 13 = .ok (.iload_n 1, 1) := by decide +kernel
theorem d12_unlike_14 : decode b12_unlike 14 = .ok (.invokevirtual 279, 3) := by decide +kernel
theorem d12_unlike_17 : decode b12_unlike 17 = .ok (.iconst 0, 1) := by decide +kernel
theorem d12_unlike_18 : decode b12_unlike 18 = .ok (.istore_n 3, 1) := by decide +kernel
theorem d12_unlike_19 : decode b12_unlike 19 = .ok (.iconst 0, 1) := by decide +kernel
theorem d12_unlike_20 : decode b12_unlike 20 = .ok (.istore 4, 2) := by decide +kernel
theorem d12_unlike_22 : decode b12_unlike 22 = .ok (.iload 4, 2) := by decide +kernel
theorem d12_unlike_24 : decode b12_unlike 24 = .ok (.aload_n 0, 1) := by decide +kernel
theorem d12_unlike_25 : decode b12_unlike 25 = .ok (.getfield 338, 3) := by decide +kernel
theorem d12_unlike_28 : decode b12_unlike 28 = .ok (.aload_n 0, 1) := by decide +kernel
theorem d12_unlike_29 : decode b12_unlike 29 = .ok (.getfield 276, 3) := by decide +kernel
theorem d12_unlike_32 : decode b12_unlike 32 = .ok (.invokestatic 189, 3) := by decide +kernel
theorem d12_unlike_35 : decode b12_unlike 35 = .ok (.if_icmp .ge 38, 3) := by decide +kernel
theorem d12_unlike_38 : decode b12_unlike 38 = .ok (.iload_n 3, 1) := by decide +kernel
theorem d12_unlike_39 : decode b12_unlike 39 = .ok (.aload_n 0, 1) := by decide +kernel
theorem d12_unlike_40 : decode b12_unlike 40 = .ok (.iload 4, 2) := by decide +kernel
theorem d12_unlike_42 : decode b12_unlike 42 = .ok (.aload_n 0, 1) := by decide +kernel
theorem d12_unlike_43 : decode b12_unlike 43 = .ok (.getfield 276, 3) := by decide +kernel
theorem d12_unlike_46 : decode b12_unlike 46 = .ok (.if_icmp .ge 13, 3) := by decide +kernel
theorem d12_unlike_49 : decode b12_unlike 49 = .ok (.aload_n 0, 1) := by decide +kernel
theorem d12_unlike_50 : decode b12_unlike 50 = .ok (.iload_n 1, 1) := by decide +kernel
theorem d12_unlike_51 : decode b12_unlike 51 = .ok (.iload 4, 2) := by decide +kernel
theorem d12_unlike_53 : decode b12_unlike 53 = .ok (.invokevirtual 282, 3) := by decide +kernel
theorem d12_unlike_56 : decode b12_unlike 56 = .ok (.goto 4, 3) := by decide +kernel
theorem d12_unlike_59 : decode b12_unlike 59 = .ok (.iconst (-1), 1) := by decide +kernel
theorem d12_unlike_60 : decode b12_unlike 60 = .ok (.iload 4, 2) := by decide +kernel
theorem d12_unlike_62 : decode b12_unlike 62 = .ok (.invokevirtual 346, 3) := by decide +kernel
theorem d12_unlike_65 : decode b12_unlike 65 = .ok (.iadd, 1) := by decide +kernel
theorem d12_unlike_66 : decode b12_unlike 66 = .ok (.istore_n 3, 1) := by decide +kernel
theorem d12_unlike_67 : decode b12_unlike 67 = .ok (.iinc 4 1, 3) := by decide +kernel
theorem d12_unlike_70 : decode b12_unlike 70 = .ok (.goto (-48), 3) := by decide +kernel
theorem d12_unlike_73 : decode b12_unlike 73 = .ok (.iload_n 3, 1) := by decide +kernel
theorem d12_unlike_74 : decode b12_unlike 74 = .ok (.ireturn, 1) := by decide +kernel
theorem mc12_unlikeOf : Cond.code y12_unlikeOf b12_unlikeOf 7 (some .int) ∈ ce_cm := ce_cm_of (List.mem_of_getElem? (i := 1582) (by decide +kernel)) (by decide +kernel)
theorem ml_12_346 : Cond.methodLink cn_12 346 y12_unlikeOf ∈ ce_cm := ce_cm_of (List.mem_of_getElem? (i := 1579) (by decide +kernel)) (by decide +kernel)
theorem mi12_unlikeOf : Cond.instanceMethod y12_unlikeOf ∈ ce_cm := ce_cm_of (List.mem_of_getElem? (i := 1581) (by decide +kernel)) (by decide +kernel)
theorem ms12_unlikeOf : Cond.selects cn_12 y12_unlikeOf y12_unlikeOf ∈ ce_cm := ce_cm_of (List.mem_of_getElem? (i := 81) (by decide +kernel)) (by decide +kernel)
def f12_unlike_b22 (F : Nat) (x1 : Int32) (x3 : Int32) (x4 : Int32) (h : Hp) : Option ((Int32 × Int32 × Hp) ⊕ (Int32 × Hp)) :=
  if (if (h 68 29) < (h 68 24) then (h 68 24) else (h 68 29)) ≤ x4 then
    some (.inr (x3, h))
  else
    if (h 68 24) ≤ x4 then
      Option.bind (f12_unlikeOf F (-1 : Int32) x4 h) (fun o62 =>
        some (.inl (x3 + o62.1, x4 + (1 : Int32), o62.2)))
    else
      Option.bind (f12_withId F x1 x4 h) (fun o53 =>
        Option.bind (f12_unlikeOf F o53.1 x4 o53.2) (fun o62 =>
          some (.inl (x3 + o62.1, x4 + (1 : Int32), o62.2))))
set_option maxRecDepth 20000 in
theorem l12_unlike_22 (C : ce_Cx p s m args c meth b12_unlike 5 (some .int) cn_12 D ad cA B0 (ce_St aK aV B0)) (F : Nat) (x1 : Int32)  (r : Int32 × Hp) (g : (Int32 × Hp) → Option (Int32 × Hp)) (hx : ∀ (x3 : Int32) (h : Hp) (H : Heap) (locs : List Loc) (ls : Array Slot), ce_H D ad cA B0 [] s h H locs → lv_has ls 5 [(3, .int x3)] → g (x3, h) = some r → W p l e0 { frames := 15, cells := 0, slots := 0, locals := 350 } s m args below meth c H locs 0 0 (MQ below (ce_Q D ad cA B0 (ce_St aK aV B0) (some (.int r.1)) r.2) args s 0 0 (fun q => B0 ≤ q)) (F0 m 73 ls [])) : ∀ (n : Nat) (x3 : Int32) (x4 : Int32) (h : Hp) (H : Heap) (locs : List Loc) (ls : Array Slot), ce_H D ad cA B0 [] s h H locs → lv_has ls 5 [(0, .ref (ad 68)), (1, .int x1), (3, .int x3), (4, .int x4)] → Option.bind (ce_it (fun (st : Int32 × Int32 × Hp) => f12_unlike_b22 F x1 st.1 st.2.1 st.2.2) n (x3, x4, h)) g = some r → W p l e0 { frames := 15, cells := 0, slots := 0, locals := 350 } s m args below meth c H locs 0 0 (MQ below (ce_Q D ad cA B0 (ce_St aK aV B0) (some (.int r.1)) r.2) args s 0 0 (fun q => B0 ≤ q)) (F0 m 22 ls []) := by
  intro n
  induction n with
  | zero =>
    intro x3 x4 h H locs ls hH hl e
    exact absurd e (fun z => by cases z)
  | succ n ih =>
    intro x3 x4 h H locs ls hH hl e
    have hx9 := C.1
    have hb := C.2.1
    have e : Option.bind (f12_unlike_b22 F x1 x3 x4 h) _ = some r := ce_it_bd e
    unfold f12_unlike_b22 at e
    refine lv_iload hx9 hb d12_unlike_22 (lv_at hl 3 rfl) ?_
    refine lv_aload_n hx9 hb d12_unlike_24 rfl (lv_at hl 0 rfl) ?_
    refine gf_12_338 C hH d12_unlike_25 ?_
    refine lv_aload_n hx9 hb d12_unlike_28 rfl (lv_at hl 0 rfl) ?_
    refine gf_12_276 C hH d12_unlike_29 ?_
    refine va_mmax hx9 hb (C.2.2.1.trans hl.1.symm) C.2.2.2.1 (C.2.2.2.2.1 _ ml_12_189) (C.2.2.2.2.1 _ mt_Mmax) (C.2.2.2.2.1 _ mI_M) (C.2.2.2.2.1 _ mc_Mmax) (Nat.le_of_ble_eq_true rfl) (Nat.le_of_ble_eq_true rfl) (Nat.le_of_ble_eq_true rfl) (Nat.le_of_ble_eq_true rfl) d12_unlike_32 ?_
    refine lv_icmp_ge (tgt := 73) hx9 hb d12_unlike_35 (by decide) (fun hc35 => ?_) (fun hc35 => ?_)
    · have e := ce_if1 e hc35
      exact hx x3 h _ _ _ hH (lv_sub hl [2] rfl) e
    · have e := ce_if0 e hc35
      refine lv_iload_n hx9 hb d12_unlike_38 rfl (lv_at hl 2 rfl) ?_
      refine lv_aload_n hx9 hb d12_unlike_39 rfl (lv_at hl 0 rfl) ?_
      refine lv_iload hx9 hb d12_unlike_40 (lv_at hl 3 rfl) ?_
      refine lv_aload_n hx9 hb d12_unlike_42 rfl (lv_at hl 0 rfl) ?_
      refine gf_12_276 C hH d12_unlike_43 ?_
      refine lv_icmp_ge (tgt := 59) hx9 hb d12_unlike_46 (by decide) (fun hc46 => ?_) (fun hc46 => ?_)
      · have e := ce_if1 e hc46
        refine lv_iconst (v := (-1 : Int32)) hx9 hb d12_unlike_59 (by decide) ?_
        refine lv_iload hx9 hb d12_unlike_60 (lv_at hl 3 rfl) ?_
        obtain ⟨o62, eo62, e⟩ := ce_bd e
        refine ce_callV (As := [.int (-1 : Int32), .int x4]) (rest := [.int x3]) C (ce_sok aK aV B0) hH (c12_unlikeOf l D ad cA aK aV B0 C.2.2.2.2.2.2.1 F (-1 : Int32) x4  h o62 eo62) lo_68.1 lo_68.2.choose_spec rfl rfl mc12_unlikeOf ml_12_346 mi12_unlikeOf ms12_unlikeOf mI_12 (n := 2) (by decide) rfl ⟨Nat.le_of_ble_eq_true rfl, Nat.le_of_ble_eq_true rfl⟩ ⟨Nat.le_of_ble_eq_true rfl, Nat.le_of_ble_eq_true rfl⟩ hl.1 rfl (Nat.le_of_ble_eq_true rfl) d12_unlike_62 (fun H locs hH => ?_)
        refine W.eq (g2 := F0 m 65 ls [.int o62.1, .int x3]) rfl ?_
        refine lv_iadd hx9 hb d12_unlike_65 ?_
        refine lv_istore_n (lv' := [(3, .int (x3 + o62.1)), (0, .ref (ad 68)), (1, .int x1), (4, .int x4)]) hx9 hb d12_unlike_66 rfl hl (by decide) rfl (fun ls hl => ?_)
        refine lv_iinc (v := x4 + (1 : Int32)) (lv' := [(4, .int (x4 + (1 : Int32))), (3, .int (x3 + o62.1)), (0, .ref (ad 68)), (1, .int x1)]) hx9 hb d12_unlike_67 hl (k := 3) rfl rfl (by decide) rfl (fun ls hl => ?_)
        refine lv_goto (tgt := 22) hx9 hb d12_unlike_70 (by decide) ?_
        exact ih (x3 + o62.1) (x4 + (1 : Int32)) o62.2 _ _ _ hH (lv_sub hl [2, 3, 1, 0] rfl) e
      · have e := ce_if0 e hc46
        refine lv_aload_n hx9 hb d12_unlike_49 rfl (lv_at hl 0 rfl) ?_
        refine lv_iload_n hx9 hb d12_unlike_50 rfl (lv_at hl 1 rfl) ?_
        refine lv_iload hx9 hb d12_unlike_51 (lv_at hl 3 rfl) ?_
        obtain ⟨o53, eo53, e⟩ := ce_bd e
        refine ce_callV (As := [.int x1, .int x4]) (rest := [.ref (ad 68), .int x3]) C (ce_sok aK aV B0) hH (c12_withId l D ad cA aK aV B0 C.2.2.2.2.2.2.1 F x1 x4  h o53 eo53) lo_68.1 lo_68.2.choose_spec rfl rfl mc12_withId ml_12_282 mi12_withId ms12_withId mI_12 (n := 2) (by decide) rfl ⟨Nat.le_of_ble_eq_true rfl, Nat.le_of_ble_eq_true rfl⟩ ⟨Nat.le_of_ble_eq_true rfl, Nat.le_of_ble_eq_true rfl⟩ hl.1 rfl (Nat.le_of_ble_eq_true rfl) d12_unlike_53 (fun H locs hH => ?_)
        refine W.eq (g2 := F0 m 56 ls [.int o53.1, .ref (ad 68), .int x3]) rfl ?_
        refine lv_goto (tgt := 60) hx9 hb d12_unlike_56 (by decide) ?_
        refine lv_iload hx9 hb d12_unlike_60 (lv_at hl 3 rfl) ?_
        obtain ⟨o62, eo62, e⟩ := ce_bd e
        refine ce_callV (As := [.int o53.1, .int x4]) (rest := [.int x3]) C (ce_sok aK aV B0) hH (c12_unlikeOf l D ad cA aK aV B0 C.2.2.2.2.2.2.1 F o53.1 x4  o53.2 o62 eo62) lo_68.1 lo_68.2.choose_spec rfl rfl mc12_unlikeOf ml_12_346 mi12_unlikeOf ms12_unlikeOf mI_12 (n := 2) (by decide) rfl ⟨Nat.le_of_ble_eq_true rfl, Nat.le_of_ble_eq_true rfl⟩ ⟨Nat.le_of_ble_eq_true rfl, Nat.le_of_ble_eq_true rfl⟩ hl.1 rfl (Nat.le_of_ble_eq_true rfl) d12_unlike_62 (fun H locs hH => ?_)
        refine W.eq (g2 := F0 m 65 ls [.int o62.1, .int x3]) rfl ?_
        refine lv_iadd hx9 hb d12_unlike_65 ?_
        refine lv_istore_n (lv' := [(3, .int (x3 + o62.1)), (0, .ref (ad 68)), (1, .int x1), (4, .int x4)]) hx9 hb d12_unlike_66 rfl hl (by decide) rfl (fun ls hl => ?_)
        refine lv_iinc (v := x4 + (1 : Int32)) (lv' := [(4, .int (x4 + (1 : Int32))), (3, .int (x3 + o62.1)), (0, .ref (ad 68)), (1, .int x1)]) hx9 hb d12_unlike_67 hl (k := 3) rfl rfl (by decide) rfl (fun ls hl => ?_)
        refine lv_goto (tgt := 22) hx9 hb d12_unlike_70 (by decide) ?_
        exact ih (x3 + o62.1) (x4 + (1 : Int32)) o62.2 _ _ _ hH (lv_sub hl [2, 3, 1, 0] rfl) e
def f12_unlike (F : Nat) (x1 : Int32) (h : Hp) : Option (Int32 × Hp) :=
  Option.bind (f12_whyNot F x1 h) (fun o2 =>
    if 0 ≤ o2.1 then
      Option.bind (f12_laysIds F x1 o2.2) (fun o14 =>
        Option.bind (ce_it (fun (st : Int32 × Int32 × Hp) => f12_unlike_b22 F x1 st.1 st.2.1 st.2.2) F ((0 : Int32), (0 : Int32), o14)) (fun o22 =>
          some (o22.1, o22.2)))
    else
      some (o2.1, o2.2))
set_option maxRecDepth 20000 in
theorem c12_unlike (l : Launch) (D : va_G) (ad : Nat → Nat) (cA : Nat → ClassId) (aK aV : Nat → Nat) (B0 : Nat) (hA : ce_Ad ad B0) (F : Nat) (x1 : Int32)  (h : Hp) (r : Int32 × Hp) (e : f12_unlike F x1 h = some r) : ce_Ct l D ad cA B0 (ce_St aK aV B0) y12_unlike b12_unlike 5 (some .int) 15 350 0 0 [.ref (ad 68), .int x1] h (some (.int r.1)) r.2 := by
  refine ce_enter hA (by decide) rfl (Nat.le_of_ble_eq_true rfl) (fun p e0 s m below meth c ls C hH hl => ?_)
  have hl : lv_has ls 5 [(0, .ref (ad 68)), (1, .int x1)] := hl
  have hx := C.1
  have hb := C.2.1
  have e : Option.bind _ some = some r := (congrArg (fun z => Option.bind z some) e).trans rfl
  unfold f12_unlike at e
  refine lv_aload_n hx hb d12_unlike_0 rfl (lv_at hl 0 rfl) ?_
  refine lv_iload_n hx hb d12_unlike_1 rfl (lv_at hl 1 rfl) ?_
  obtain ⟨o2, eo2, e⟩ := ce_bd e
  refine ce_callV (As := [.int x1]) (rest := []) C (ce_sok aK aV B0) hH (c12_whyNot l D ad cA aK aV B0 C.2.2.2.2.2.2.1 F x1  h o2 eo2) lo_68.1 lo_68.2.choose_spec rfl rfl mc12_whyNot ml_12_267 mi12_whyNot ms12_whyNot mI_12 (n := 1) (by decide) rfl ⟨Nat.le_of_ble_eq_true rfl, Nat.le_of_ble_eq_true rfl⟩ ⟨Nat.le_of_ble_eq_true rfl, Nat.le_of_ble_eq_true rfl⟩ hl.1 rfl (Nat.le_of_ble_eq_true rfl) d12_unlike_2 (fun H locs hH => ?_)
  refine W.eq (g2 := F0 m 5 ls [.int o2.1]) rfl ?_
  refine lv_istore_n (lv' := [(2, .int o2.1), (0, .ref (ad 68)), (1, .int x1)]) hx hb d12_unlike_5 rfl hl (by decide) rfl (fun ls hl => ?_)
  refine lv_iload_n hx hb d12_unlike_6 rfl (lv_at hl 0 rfl) ?_
  refine lv_if_ge (tgt := 12) hx hb d12_unlike_7 (by decide) (fun hc7 => ?_) (fun hc7 => ?_)
  · have e := ce_if1 e hc7
    refine lv_aload_n hx hb d12_unlike_12 rfl (lv_at hl 1 rfl) ?_
    refine lv_iload_n hx hb d12_unlike_13 rfl (lv_at hl 2 rfl) ?_
    obtain ⟨o14, eo14, e⟩ := ce_bd e
    refine ce_callV (As := [.int x1]) (rest := []) C (ce_sok aK aV B0) hH (c12_laysIds l D ad cA aK aV B0 C.2.2.2.2.2.2.1 F x1  o2.2 o14 eo14) lo_68.1 lo_68.2.choose_spec rfl rfl mc12_laysIds ml_12_279 mi12_laysIds ms12_laysIds mI_12 (n := 1) (by decide) rfl ⟨Nat.le_of_ble_eq_true rfl, Nat.le_of_ble_eq_true rfl⟩ ⟨Nat.le_of_ble_eq_true rfl, Nat.le_of_ble_eq_true rfl⟩ hl.1 rfl (Nat.le_of_ble_eq_true rfl) d12_unlike_14 (fun H locs hH => ?_)
    refine W.eq (g2 := F0 m 17 ls []) rfl ?_
    refine lv_iconst (v := (0 : Int32)) hx hb d12_unlike_17 (by decide) ?_
    refine lv_istore_n (lv' := [(3, .int (0 : Int32)), (2, .int o2.1), (0, .ref (ad 68)), (1, .int x1)]) hx hb d12_unlike_18 rfl hl (by decide) rfl (fun ls hl => ?_)
    refine lv_iconst (v := (0 : Int32)) hx hb d12_unlike_19 (by decide) ?_
    refine lv_istore (lv' := [(4, .int (0 : Int32)), (3, .int (0 : Int32)), (2, .int o2.1), (0, .ref (ad 68)), (1, .int x1)]) hx hb d12_unlike_20 hl (by decide) rfl (fun ls hl => ?_)
    refine l12_unlike_22 C F x1  r _ (fun y22_3 h_22 H locs ls hH hl e => ?_) F (0 : Int32) (0 : Int32) o14 _ _ _ hH (lv_sub hl [3, 4, 1, 0] rfl) (ce_as e)
    try dsimp only at e
    refine lv_iload_n hx hb d12_unlike_73 rfl (lv_at hl 0 rfl) ?_
    exact ce_iretE C (ce_sok aK aV B0) hH e d12_unlike_74
  · have e := ce_if0 e hc7
    refine lv_iload_n hx hb d12_unlike_10 rfl (lv_at hl 0 rfl) ?_
    exact ce_iretE C (ce_sok aK aV B0) hH e d12_unlike_11
abbrev b12_asks : ByteArray := prog_14_method_84_code
def y12_asks : MethodName := ⟨cn_12, "asks", "(II)V"⟩
theorem d12_asks_0 : decode b12_asks 0 = .ok (.aload_n 0, 1) := by decide +kernel
theorem d12_asks_1 : decode b12_asks 1 = .ok (.getfield 89, 3) := by decide +kernel
theorem d12_asks_4 : decode b12_asks 4 = .ok (.iload_n 1, 1) := by decide +kernel
theorem d12_asks_5 : decode b12_asks 5 = .ok (.iload_n 2, 1) := by decide +kernel
theorem d12_asks_6 : decode b12_asks 6 = .ok (.iload_n 1, 1) := by decide +kernel
theorem d12_asks_7 : decode b12_asks 7 = .ok (.invokestatic 349, 3) := by decide +kernel
theorem d12_asks_10 : decode b12_asks 10 = .ok (.ifCond .eq 7, 3) := by decide +kernel
theorem d12_asks_13 : decode b12_asks 13 = .ok (.iload_n 1, 1) := by decide +kernel
theorem d12_asks_14 : decode b12_asks 14 = .ok (.goto 4, 3) := by decide +kernel
theorem d12_asks_17 : decode b12_asks 17 = .ok (.iconst (-1), 1) := by decide +kernel
theorem d12_asks_18 : decode b12_asks 18 = .ok (.iastore, 1) := by decide +kernel
theorem d12_asks_19 : decode b12_asks 19 = .ok (.aload_n 0, 1) := by decide +kernel
theorem d12_asks_20 : decode b12_asks 20 = .ok (.getfield 92, 3) := by decide +kernel
theorem d12_asks_23 : decode b12_asks 23 = .ok (.iload_n 1, 1) := by decide +kernel
theorem d12_asks_24 : decode b12_asks 24 = .ok (.iconst 0, 1) := by decide +kernel
theorem d12_asks_25 : decode b12_asks 25 = .ok (.iastore, 1) := by decide +kernel
theorem d12_asks_26 : decode b12_asks 26 = .ok (.iconst 4, 1) := by decide +kernel
theorem d12_asks_27 : decode b12_asks 27 = .ok (.iload_n 1, 1) := by decide +kernel
theorem d12_asks_28 : decode b12_asks 28 = .ok (.imul, 1) := by decide +kernel
theorem d12_asks_29 : decode b12_asks 29 = .ok (.istore_n 3, 1) := by decide +kernel
theorem d12_asks_30 : decode b12_asks 30 = .ok (.iload_n 3, 1) := by decide +kernel
theorem d12_asks_31 : decode b12_asks 31 = .ok (.iconst 4, 1) := by decide +kernel
theorem d12_asks_32 : decode b12_asks 32 = .ok (.iload_n 1, 1) := by decide +kernel
theorem d12_asks_33 : decode b12_asks 33 = .ok (.imul, 1) := by decide +kernel
theorem d12_asks_34 : decode b12_asks 34 = .ok (.iconst 4, 1) := by decide +kernel
theorem d12_asks_35 : decode b12_asks 35 = .ok (.iadd, 1) := by decide +kernel
theorem d12_asks_36 : decode b12_asks 36 = .ok (.if_icmp .ge 144, 3) := by decide +kernel
theorem d12_asks_39 : decode b12_asks 39 = .ok (.aload_n 0, 1) := by decide +kernel
theorem d12_asks_40 : decode b12_asks 40 = .ok (.iload_n 3, 1) := by decide +kernel
theorem d12_asks_41 : decode b12_asks 41 = .ok (.invokevirtual 264, 3) := by decide +kernel
theorem d12_asks_44 : decode b12_asks 44 = .ok (.ifCond .ne 6, 3) := by decide +kernel
theorem d12_asks_47 : decode b12_asks 47 = .ok (.goto 127, 3) := by decide +kernel
theorem d12_asks_50 : decode b12_asks 50 = .ok (.aload_n 0, 1) := by decide +kernel
theorem d12_asks_51 : decode b12_asks 51 = .ok (.iload_n 3, 1) := by decide +kernel
theorem d12_asks_52 : decode b12_asks 52 = .ok (.invokevirtual 224, 3) := by decide +kernel
theorem d12_asks_55 : decode b12_asks 55 = .ok (.iconst 4, 1) := by decide +kernel
theorem d12_asks_56 : decode b12_asks 56 = .ok (.idiv, 1) := by decide +kernel
theorem d12_asks_57 : decode b12_asks 57 = .ok (.istore 4, 2) := by decide +kernel
theorem d12_asks_59 : decode b12_asks 59 = .ok (.aload_n 0, 1) := by decide +kernel
theorem d12_asks_60 : decode b12_asks 60 = .ok (.iload 4, 2) := by decide +kernel
theorem d12_asks_62 : decode b12_asks 62 = .ok (.iload_n 2, 1) := by decide +kernel
theorem d12_asks_63 : decode b12_asks 63 = .ok (.invokevirtual 352, 3) := by decide +kernel
theorem d12_asks_66 : decode b12_asks 66 = .ok (.aload_n 0, 1) := by decide +kernel
theorem d12_asks_67 : decode b12_asks 67 = .ok (.getfield 89, 3) := by decide +kernel
theorem d12_asks_70 : decode b12_asks 70 = .ok (.iload 4, 2) := by decide +kernel
theorem d12_asks_72 : decode b12_asks 72 = .ok (.iaload, 1) := by decide +kernel
theorem d12_asks_73 : decode b12_asks 73 = .ok (.iconst (-1), 1) := by decide +kernel
theorem d12_asks_74 : decode b12_asks 74 = .ok (.if_icmp .ne 6, 3) := by decide +kernel
theorem d12_asks_77 : decode b12_asks 77 = .ok (.goto 97, 3) := by decide +kernel
theorem d12_asks_80 : decode b12_asks 80 = .ok (.aload_n 0, 1) := by decide +kernel
theorem d12_asks_81 : decode b12_asks 81 = .ok (.getfield 92, 3) := by decide +kernel
theorem d12_asks_84 : decode b12_asks 84 = .ok (.iload 4, 2) := by decide +kernel
theorem d12_asks_86 : decode b12_asks 86 = .ok (.iaload, 1) := by decide +kernel
theorem d12_asks_87 : decode b12_asks 87 = .ok (.aload_n 0, 1) := by decide +kernel
theorem d12_asks_88 : decode b12_asks 88 = .ok (.getfield 89, 3) := by decide +kernel
theorem d12_asks_91 : decode b12_asks 91 = .ok (.iload 4, 2) := by decide +kernel
theorem d12_asks_93 : decode b12_asks 93 = .ok (.iaload, 1) := by decide +kernel
theorem d12_asks_94 : decode b12_asks 94 = .ok (.iload 4, 2) := by decide +kernel
theorem d12_asks_96 : decode b12_asks 96 = .ok (.if_icmp .ne 7, 3) := by decide +kernel
theorem d12_asks_99 : decode b12_asks 99 = .ok (.iconst 0, 1) := by decide +kernel
theorem d12_asks_100 : decode b12_asks 100 = .ok (.goto 9, 3) := by decide +kernel
theorem d12_asks_103 : decode b12_asks 103 = .ok (.aload_n 0, 1) := by decide +kernel
theorem d12_asks_104 : decode b12_asks 104 = .ok (.getfield 7, 3) := by decide +kernel
theorem d12_asks_107 : decode b12_asks 107 = .ok (.iconst 1, 1) := by decide +kernel
theorem d12_asks_108 : decode b12_asks 108 = .ok (.iaload, 1) := by decide +kernel
theorem d12_asks_109 : decode b12_asks 109 = .ok (.iadd, 1) := by decide +kernel
theorem d12_asks_110 : decode b12_asks 110 = .ok (.aload_n 0, 1) := by decide +kernel
theorem d12_asks_111 : decode b12_asks 111 = .ok (.getfield 7, 3) := by decide +kernel
theorem d12_asks_114 : decode b12_asks 114 = .ok (.bipush 85, 2) := by decide +kernel
theorem d12_asks_116 : decode b12_asks 116 = .ok (.iload_n 3, 1) := by decide +kernel
theorem d12_asks_117 : decode b12_asks 117 = .ok (.iadd, 1) := by decide +kernel
theorem d12_asks_118 : decode b12_asks 118 = .ok (.iaload, 1) := by decide +kernel
theorem d12_asks_119 : decode b12_asks 119 = .ok (.iadd, 1) := by decide +kernel
theorem d12_asks_120 : decode b12_asks 120 = .ok (.istore 5, 2) := by decide +kernel
theorem d12_asks_122 : decode b12_asks 122 = .ok (.aload_n 0, 1) := by decide +kernel
theorem d12_asks_123 : decode b12_asks 123 = .ok (.getfield 89, 3) := by decide +kernel
theorem d12_asks_126 : decode b12_asks 126 = .ok (.iload_n 1, 1) := by decide +kernel
theorem d12_asks_127 : decode b12_asks 127 = .ok (.iaload, 1) := by decide +kernel
theorem d12_asks_128 : decode b12_asks 128 = .ok (.iconst (-1), 1) := by decide +kernel
theorem d12_asks_129 : decode b12_asks 129 = .ok (.if_icmp .eq 24, 3) := by decide +kernel
theorem d12_asks_132 : decode b12_asks 132 = .ok (.iload 5, 2) := by decide +kernel
theorem d12_asks_134 : decode b12_asks 134 = .ok (.aload_n 0, 1) := by decide +kernel
theorem d12_asks_135 : decode b12_asks 135 = .ok (.getfield 92, 3) := by decide +kernel
theorem d12_asks_138 : decode b12_asks 138 = .ok (.iload_n 1, 1) := by decide +kernel
theorem d12_asks_139 : decode b12_asks 139 = .ok (.iaload, 1) := by decide +kernel
theorem d12_asks_140 : decode b12_asks 140 = .ok (.if_icmp .ge 34, 3) := by decide +kernel
theorem d12_asks_143 : decode b12_asks 143 = .ok (.aload_n 0, 1) := by decide +kernel
theorem d12_asks_144 : decode b12_asks 144 = .ok (.getfield 89, 3) := by decide +kernel
theorem d12_asks_147 : decode b12_asks 147 = .ok (.iload_n 1, 1) := by decide +kernel
theorem d12_asks_148 : decode b12_asks 148 = .ok (.iaload, 1) := by decide +kernel
theorem d12_asks_149 : decode b12_asks 149 = .ok (.iload_n 1, 1) := by decide +kernel
theorem d12_asks_150 : decode b12_asks 150 = .ok (.if_icmp .eq 24, 3) := by decide +kernel
theorem d12_asks_153 : decode b12_asks 153 = .ok (.aload_n 0, 1) := by decide +kernel
theorem d12_asks_154 : decode b12_asks 154 = .ok (.getfield 89, 3) := by decide +kernel
theorem d12_asks_157 : decode b12_asks 157 = .ok (.iload_n 1, 1) := by decide +kernel
theorem d12_asks_158 : decode b12_asks 158 = .ok (.aload_n 0, 1) := by decide +kernel
theorem d12_asks_159 : decode b12_asks 159 = .ok (.getfield 89, 3) := by decide +kernel
theorem d12_asks_162 : decode b12_asks 162 = .ok (.iload 4, 2) := by decide +kernel
theorem d12_asks_164 : decode b12_asks 164 = .ok (.iaload, 1) := by decide +kernel
theorem d12_asks_165 : decode b12_asks 165 = .ok (.iastore, 1) := by decide +kernel
theorem d12_asks_166 : decode b12_asks 166 = .ok (.aload_n 0, 1) := by decide +kernel
theorem d12_asks_167 : decode b12_asks 167 = .ok (.getfield 92, 3) := by decide +kernel
theorem d12_asks_170 : decode b12_asks 170 = .ok (.iload_n 1, 1) := by decide +kernel
theorem d12_asks_171 : decode b12_asks 171 = .ok (.iload 5, 2) := by decide +kernel
theorem d12_asks_173 : decode b12_asks 173 = .ok (.iastore, 1) := by decide +kernel
theorem d12_asks_174 : decode b12_asks 174 = .ok (.iinc 3 1, 3) := by decide +kernel
theorem d12_asks_177 : decode b12_asks 177 = .ok (.goto (-147), 3) := by decide +kernel
theorem d12_asks_180 : decode b12_asks 180 = .ok (.return_, 1) := by decide +kernel
theorem fl_12_89 : Cond.fieldLink cn_12 89 (ft_12 39).1 (ft_12 39).2.1 (ft_12 39).2.2.1 ∈ ce_cm := ce_cm_of (List.mem_of_getElem? (i := 1160) (by decide +kernel)) (by decide +kernel)
theorem gf_12_89 (C : ce_Cx p s m args c meth cc nL ret cn_12 D ad cA B0 (ce_St aK aV B0)) (hH : ce_H D ad cA B0 X s h H locs) (hdg : decode cc pc = .ok (.getfield 89, 3)) (kk : W p l e0 R s m args below meth c H locs cells slots Q (F0 m (pc + 3) ls (.ref (ad 94) :: rest))) : W p l e0 R s m args below meth c H locs cells slots Q (F0 m pc ls (.ref (ad 68) :: rest)) := by
  exact ce_get C hH (k := 68) (ci := 12) (j := 39) (N := 43) (sj := some (some 94)) (by decide) rfl rfl fw_12 (by decide) fl_12_89 rfl hdg kk
theorem lc_94 : 94 < 96 ∧ ce_lay 94 = .inl (0, 10) := ⟨by decide, rfl⟩
theorem fl_12_92 : Cond.fieldLink cn_12 92 (ft_12 40).1 (ft_12 40).2.1 (ft_12 40).2.2.1 ∈ ce_cm := ce_cm_of (List.mem_of_getElem? (i := 1161) (by decide +kernel)) (by decide +kernel)
theorem gf_12_92 (C : ce_Cx p s m args c meth cc nL ret cn_12 D ad cA B0 (ce_St aK aV B0)) (hH : ce_H D ad cA B0 X s h H locs) (hdg : decode cc pc = .ok (.getfield 92, 3)) (kk : W p l e0 R s m args below meth c H locs cells slots Q (F0 m (pc + 3) ls (.ref (ad 95) :: rest))) : W p l e0 R s m args below meth c H locs cells slots Q (F0 m pc ls (.ref (ad 68) :: rest)) := by
  exact ce_get C hH (k := 68) (ci := 12) (j := 40) (N := 43) (sj := some (some 95)) (by decide) rfl rfl fw_12 (by decide) fl_12_92 rfl hdg kk
theorem lc_95 : 95 < 96 ∧ ce_lay 95 = .inl (0, 10) := ⟨by decide, rfl⟩
theorem mc12_asks : Cond.code y12_asks b12_asks 6 none ∈ ce_cm := ce_cm_of (List.mem_of_getElem? (i := 1605) (by decide +kernel)) (by decide +kernel)
theorem ml_12_352 : Cond.methodLink cn_12 352 y12_asks ∈ ce_cm := ce_cm_of (List.mem_of_getElem? (i := 1602) (by decide +kernel)) (by decide +kernel)
theorem mi12_asks : Cond.instanceMethod y12_asks ∈ ce_cm := ce_cm_of (List.mem_of_getElem? (i := 1604) (by decide +kernel)) (by decide +kernel)
theorem ms12_asks : Cond.selects cn_12 y12_asks y12_asks ∈ ce_cm := ce_cm_of (List.mem_of_getElem? (i := 85) (by decide +kernel)) (by decide +kernel)
theorem mc12_has : Cond.code y12_has b12_has 2 (some .boolean) ∈ ce_cm := ce_cm_of (List.mem_of_getElem? (i := 1597) (by decide +kernel)) (by decide +kernel)
theorem ml_12_349 : Cond.methodLink cn_12 349 y12_has ∈ ce_cm := ce_cm_of (List.mem_of_getElem? (i := 1595) (by decide +kernel)) (by decide +kernel)
theorem mt12_has : Cond.static y12_has ∈ ce_cm := ce_cm_of (List.mem_of_getElem? (i := 1596) (by decide +kernel)) (by decide +kernel)
def f12_asks_b30 (F : Nat) (rc : Int32 → Int32 → Hp → Option (Hp)) (x1 : Int32) (x2 : Int32) (x3 : Int32) (h : Hp) : Option ((Int32 × Hp) ⊕ (Hp)) :=
  if (((4 : Int32) * x1) + (4 : Int32)) ≤ x3 then
    some (.inr h)
  else
    Option.bind (f12_isChild F x3 h) (fun o41 =>
      if o41.1 = 0 then
        some (.inl (x3 + (1 : Int32), o41.2))
      else
        Option.bind (f12_otherOf F x3 o41.2) (fun o52 =>
          Option.bind (rc (o52.1 / (4 : Int32)) x2 o52.2) (fun o63 =>
            if ce_in (o52.1 / (4 : Int32)) 10 = true then
              if (o63 94 ((o52.1 / (4 : Int32))).toNatClampNeg) = (-1 : Int32) then
                some (.inl (x3 + (1 : Int32), o63))
              else
                if ce_in (o52.1 / (4 : Int32)) 10 = true then
                  if ce_in (o52.1 / (4 : Int32)) 10 = true then
                    if (o63 94 ((o52.1 / (4 : Int32))).toNatClampNeg) = (o52.1 / (4 : Int32)) then
                      if ce_in ((85 : Int32) + x3) 125 = true then
                        if ce_in x1 10 = true then
                          if (o63 94 (x1).toNatClampNeg) = (-1 : Int32) then
                            if ce_in (o52.1 / (4 : Int32)) 10 = true then
                              if ce_in x1 10 = true then
                                ce_nm (hp_up o63 94 (x1).toNatClampNeg (o63 94 ((o52.1 / (4 : Int32))).toNatClampNeg)) (fun h_165 =>
                                  if ce_in x1 10 = true then
                                    ce_nm (hp_up h_165 95 (x1).toNatClampNeg (((o63 95 ((o52.1 / (4 : Int32))).toNatClampNeg) + (0 : Int32)) + (o63 69 (((85 : Int32) + x3)).toNatClampNeg))) (fun h_173 =>
                                      some (.inl (x3 + (1 : Int32), h_173)))
                                  else none)
                              else none
                            else none
                          else
                            if ce_in x1 10 = true then
                              if (o63 95 (x1).toNatClampNeg) ≤ (((o63 95 ((o52.1 / (4 : Int32))).toNatClampNeg) + (0 : Int32)) + (o63 69 (((85 : Int32) + x3)).toNatClampNeg)) then
                                some (.inl (x3 + (1 : Int32), o63))
                              else
                                if ce_in x1 10 = true then
                                  if (o63 94 (x1).toNatClampNeg) = x1 then
                                    some (.inl (x3 + (1 : Int32), o63))
                                  else
                                    if ce_in (o52.1 / (4 : Int32)) 10 = true then
                                      if ce_in x1 10 = true then
                                        ce_nm (hp_up o63 94 (x1).toNatClampNeg (o63 94 ((o52.1 / (4 : Int32))).toNatClampNeg)) (fun h_165 =>
                                          if ce_in x1 10 = true then
                                            ce_nm (hp_up h_165 95 (x1).toNatClampNeg (((o63 95 ((o52.1 / (4 : Int32))).toNatClampNeg) + (0 : Int32)) + (o63 69 (((85 : Int32) + x3)).toNatClampNeg))) (fun h_173 =>
                                              some (.inl (x3 + (1 : Int32), h_173)))
                                          else none)
                                      else none
                                    else none
                                else none
                            else none
                        else none
                      else none
                    else
                      if ce_in ((85 : Int32) + x3) 125 = true then
                        if ce_in x1 10 = true then
                          if (o63 94 (x1).toNatClampNeg) = (-1 : Int32) then
                            if ce_in (o52.1 / (4 : Int32)) 10 = true then
                              if ce_in x1 10 = true then
                                ce_nm (hp_up o63 94 (x1).toNatClampNeg (o63 94 ((o52.1 / (4 : Int32))).toNatClampNeg)) (fun h_165 =>
                                  if ce_in x1 10 = true then
                                    ce_nm (hp_up h_165 95 (x1).toNatClampNeg (((o63 95 ((o52.1 / (4 : Int32))).toNatClampNeg) + (o63 69 ((1 : Int32)).toNatClampNeg)) + (o63 69 (((85 : Int32) + x3)).toNatClampNeg))) (fun h_173 =>
                                      some (.inl (x3 + (1 : Int32), h_173)))
                                  else none)
                              else none
                            else none
                          else
                            if ce_in x1 10 = true then
                              if (o63 95 (x1).toNatClampNeg) ≤ (((o63 95 ((o52.1 / (4 : Int32))).toNatClampNeg) + (o63 69 ((1 : Int32)).toNatClampNeg)) + (o63 69 (((85 : Int32) + x3)).toNatClampNeg)) then
                                some (.inl (x3 + (1 : Int32), o63))
                              else
                                if ce_in x1 10 = true then
                                  if (o63 94 (x1).toNatClampNeg) = x1 then
                                    some (.inl (x3 + (1 : Int32), o63))
                                  else
                                    if ce_in (o52.1 / (4 : Int32)) 10 = true then
                                      if ce_in x1 10 = true then
                                        ce_nm (hp_up o63 94 (x1).toNatClampNeg (o63 94 ((o52.1 / (4 : Int32))).toNatClampNeg)) (fun h_165 =>
                                          if ce_in x1 10 = true then
                                            ce_nm (hp_up h_165 95 (x1).toNatClampNeg (((o63 95 ((o52.1 / (4 : Int32))).toNatClampNeg) + (o63 69 ((1 : Int32)).toNatClampNeg)) + (o63 69 (((85 : Int32) + x3)).toNatClampNeg))) (fun h_173 =>
                                              some (.inl (x3 + (1 : Int32), h_173)))
                                          else none)
                                      else none
                                    else none
                                else none
                            else none
                        else none
                      else none
                  else none
                else none
            else none)))
set_option maxRecDepth 20000 in
theorem l12_asks_30 (C : ce_Cx p s m args c meth b12_asks 6 none cn_12 D ad cA B0 (ce_St aK aV B0)) (d : Nat) (rc : Int32 → Int32 → Hp → Option (Hp)) (hrc : ∀ (x1 : Int32) (x2 : Int32)  (h : Hp) (r : Hp), rc x1 x2 h = some r → ce_Ct l D ad cA B0 (ce_St aK aV B0) y12_asks b12_asks 6 none (1 + d) (43 + d * 25) 0 0 [.ref (ad 68), .int x1, .int x2] h none r) (F : Nat) (x1 : Int32) (x2 : Int32)  (r : Hp) (g : (Hp) → Option (Hp)) (hx : ∀  (h : Hp) (H : Heap) (locs : List Loc) (ls : Array Slot), ce_H D ad cA B0 [] s h H locs → lv_has ls 6 [] → g h = some r → W p l e0 { frames := 1 + (d + 1), cells := 0, slots := 0, locals := 43 + (d + 1) * 25 } s m args below meth c H locs 0 0 (MQ below (ce_Q D ad cA B0 (ce_St aK aV B0) none r) args s 0 0 (fun q => B0 ≤ q)) (F0 m 180 ls [])) : ∀ (n : Nat) (x3 : Int32) (h : Hp) (H : Heap) (locs : List Loc) (ls : Array Slot), ce_H D ad cA B0 [] s h H locs → lv_has ls 6 [(0, .ref (ad 68)), (1, .int x1), (2, .int x2), (3, .int x3)] → Option.bind (ce_it (fun (st : Int32 × Hp) => f12_asks_b30 F rc x1 x2 st.1 st.2) n (x3, h)) g = some r → W p l e0 { frames := 1 + (d + 1), cells := 0, slots := 0, locals := 43 + (d + 1) * 25 } s m args below meth c H locs 0 0 (MQ below (ce_Q D ad cA B0 (ce_St aK aV B0) none r) args s 0 0 (fun q => B0 ≤ q)) (F0 m 30 ls []) := by
  intro n
  induction n with
  | zero =>
    intro x3 h H locs ls hH hl e
    exact absurd e (fun z => by cases z)
  | succ n ih =>
    intro x3 h H locs ls hH hl e
    have hx9 := C.1
    have hb := C.2.1
    have e : Option.bind (f12_asks_b30 F rc x1 x2 x3 h) _ = some r := ce_it_bd e
    unfold f12_asks_b30 at e
    refine lv_iload_n hx9 hb d12_asks_30 rfl (lv_at hl 3 rfl) ?_
    refine lv_iconst (v := (4 : Int32)) hx9 hb d12_asks_31 (by decide) ?_
    refine lv_iload_n hx9 hb d12_asks_32 rfl (lv_at hl 1 rfl) ?_
    refine lv_imul hx9 hb d12_asks_33 ?_
    refine lv_iconst (v := (4 : Int32)) hx9 hb d12_asks_34 (by decide) ?_
    refine lv_iadd hx9 hb d12_asks_35 ?_
    refine lv_icmp_ge (tgt := 180) hx9 hb d12_asks_36 (by decide) (fun hc36 => ?_) (fun hc36 => ?_)
    · have e := ce_if1 e hc36
      exact hx  h _ _ _ hH (lv_sub hl [] rfl) e
    · have e := ce_if0 e hc36
      refine lv_aload_n hx9 hb d12_asks_39 rfl (lv_at hl 0 rfl) ?_
      refine lv_iload_n hx9 hb d12_asks_40 rfl (lv_at hl 3 rfl) ?_
      obtain ⟨o41, eo41, e⟩ := ce_bd e
      refine ce_callV (As := [.int x3]) (rest := []) C (ce_sok aK aV B0) hH (c12_isChild l D ad cA aK aV B0 C.2.2.2.2.2.2.1 F x3  h o41 eo41) lo_68.1 lo_68.2.choose_spec rfl rfl mc12_isChild ml_12_264 mi12_isChild ms12_isChild mI_12 (n := 1) (by decide) rfl ⟨show 1 + 1 ≤ 1 + (d + 1) by omega, show 8 + (3 + 11) + 21 ≤ 43 + (d + 1) * 25 by omega⟩ ⟨Nat.le_of_ble_eq_true rfl, Nat.le_of_ble_eq_true rfl⟩ hl.1 rfl (Nat.le_of_ble_eq_true rfl) d12_asks_41 (fun H locs hH => ?_)
      refine W.eq (g2 := F0 m 44 ls [.int o41.1]) rfl ?_
      refine lv_if_ne (tgt := 50) hx9 hb d12_asks_44 (by decide) (fun hc44 => ?_) (fun hc44 => ?_)
      · have e := ce_if0 e hc44
        refine lv_aload_n hx9 hb d12_asks_50 rfl (lv_at hl 0 rfl) ?_
        refine lv_iload_n hx9 hb d12_asks_51 rfl (lv_at hl 3 rfl) ?_
        obtain ⟨o52, eo52, e⟩ := ce_bd e
        refine ce_callV (As := [.int x3]) (rest := []) C (ce_sok aK aV B0) hH (c12_otherOf l D ad cA aK aV B0 C.2.2.2.2.2.2.1 F x3  o41.2 o52 eo52) lo_68.1 lo_68.2.choose_spec rfl rfl mc12_otherOf ml_12_224 mi12_otherOf ms12_otherOf mI_12 (n := 1) (by decide) rfl ⟨show 0 + 1 ≤ 1 + (d + 1) by omega, show 8 + (2 + 11) + 0 ≤ 43 + (d + 1) * 25 by omega⟩ ⟨Nat.le_of_ble_eq_true rfl, Nat.le_of_ble_eq_true rfl⟩ hl.1 rfl (Nat.le_of_ble_eq_true rfl) d12_asks_52 (fun H locs hH => ?_)
        refine W.eq (g2 := F0 m 55 ls [.int o52.1]) rfl ?_
        refine lv_iconst (v := (4 : Int32)) hx9 hb d12_asks_55 (by decide) ?_
        refine lv_idiv hx9 hb d12_asks_56 (by decide) ?_
        refine lv_istore (lv' := [(4, .int (o52.1 / (4 : Int32))), (0, .ref (ad 68)), (1, .int x1), (2, .int x2), (3, .int x3)]) hx9 hb d12_asks_57 hl (by decide) rfl (fun ls hl => ?_)
        refine lv_aload_n hx9 hb d12_asks_59 rfl (lv_at hl 1 rfl) ?_
        refine lv_iload hx9 hb d12_asks_60 (lv_at hl 0 rfl) ?_
        refine lv_iload_n hx9 hb d12_asks_62 rfl (lv_at hl 3 rfl) ?_
        obtain ⟨o63, eo63, e⟩ := ce_bd e
        refine ce_callV (As := [.int (o52.1 / (4 : Int32)), .int x2]) (rest := []) C (ce_sok aK aV B0) hH (hrc (o52.1 / (4 : Int32)) x2  o52.2 o63 eo63) lo_68.1 lo_68.2.choose_spec rfl rfl mc12_asks ml_12_352 mi12_asks ms12_asks mI_12 (n := 2) (by decide) rfl ⟨show 1 + d + 1 ≤ 1 + (d + 1) by omega, show 8 + (6 + 11) + (43 + d * 25) ≤ 43 + (d + 1) * 25 by omega⟩ ⟨Nat.le_of_ble_eq_true rfl, Nat.le_of_ble_eq_true rfl⟩ hl.1 rfl (Nat.le_of_ble_eq_true rfl) d12_asks_63 (fun H locs hH => ?_)
        refine W.eq (g2 := F0 m 66 ls []) rfl ?_
        refine lv_aload_n hx9 hb d12_asks_66 rfl (lv_at hl 1 rfl) ?_
        refine gf_12_89 C hH d12_asks_67 ?_
        refine lv_iload hx9 hb d12_asks_70 (lv_at hl 0 rfl) ?_
        obtain ⟨hi72, e⟩ := ce_gd e
        refine ce_iald C hH lc_94.1 lc_94.2 (ce_in_vp hi72) d12_asks_72 ?_
        refine lv_iconst (v := (-1 : Int32)) hx9 hb d12_asks_73 (by decide) ?_
        refine lv_icmp_ne (tgt := 80) hx9 hb d12_asks_74 (by decide) (fun hc74 => ?_) (fun hc74 => ?_)
        · have e := ce_if0 e hc74
          refine lv_aload_n hx9 hb d12_asks_80 rfl (lv_at hl 1 rfl) ?_
          refine gf_12_92 C hH d12_asks_81 ?_
          refine lv_iload hx9 hb d12_asks_84 (lv_at hl 0 rfl) ?_
          obtain ⟨hi86, e⟩ := ce_gd e
          refine ce_iald C hH lc_95.1 lc_95.2 (ce_in_vp hi86) d12_asks_86 ?_
          refine lv_aload_n hx9 hb d12_asks_87 rfl (lv_at hl 1 rfl) ?_
          refine gf_12_89 C hH d12_asks_88 ?_
          refine lv_iload hx9 hb d12_asks_91 (lv_at hl 0 rfl) ?_
          obtain ⟨hi93, e⟩ := ce_gd e
          refine ce_iald C hH lc_94.1 lc_94.2 (ce_in_vp hi93) d12_asks_93 ?_
          refine lv_iload hx9 hb d12_asks_94 (lv_at hl 0 rfl) ?_
          refine lv_icmp_ne (tgt := 103) hx9 hb d12_asks_96 (by decide) (fun hc96 => ?_) (fun hc96 => ?_)
          · have e := ce_if0 e hc96
            refine lv_aload_n hx9 hb d12_asks_103 rfl (lv_at hl 1 rfl) ?_
            refine gf_12_7 C hH d12_asks_104 ?_
            refine lv_iconst (v := (1 : Int32)) hx9 hb d12_asks_107 (by decide) ?_
            refine ce_iald C hH lc_69.1 lc_69.2 (ce_in_vp (by decide)) d12_asks_108 ?_
            refine lv_iadd hx9 hb d12_asks_109 ?_
            refine lv_aload_n hx9 hb d12_asks_110 rfl (lv_at hl 1 rfl) ?_
            refine gf_12_7 C hH d12_asks_111 ?_
            refine lv_bipush (v := (85 : Int32)) hx9 hb d12_asks_114 (by decide) ?_
            refine lv_iload_n hx9 hb d12_asks_116 rfl (lv_at hl 4 rfl) ?_
            refine lv_iadd hx9 hb d12_asks_117 ?_
            obtain ⟨hi118, e⟩ := ce_gd e
            refine ce_iald C hH lc_69.1 lc_69.2 (ce_in_vp hi118) d12_asks_118 ?_
            refine lv_iadd hx9 hb d12_asks_119 ?_
            refine lv_istore (lv' := [(5, .int (((o63 95 ((o52.1 / (4 : Int32))).toNatClampNeg) + (o63 69 ((1 : Int32)).toNatClampNeg)) + (o63 69 (((85 : Int32) + x3)).toNatClampNeg))), (4, .int (o52.1 / (4 : Int32))), (0, .ref (ad 68)), (1, .int x1), (2, .int x2), (3, .int x3)]) hx9 hb d12_asks_120 hl (by decide) rfl (fun ls hl => ?_)
            refine lv_aload_n hx9 hb d12_asks_122 rfl (lv_at hl 2 rfl) ?_
            refine gf_12_89 C hH d12_asks_123 ?_
            refine lv_iload_n hx9 hb d12_asks_126 rfl (lv_at hl 3 rfl) ?_
            obtain ⟨hi127, e⟩ := ce_gd e
            refine ce_iald C hH lc_94.1 lc_94.2 (ce_in_vp hi127) d12_asks_127 ?_
            refine lv_iconst (v := (-1 : Int32)) hx9 hb d12_asks_128 (by decide) ?_
            refine lv_icmp_eq (tgt := 153) hx9 hb d12_asks_129 (by decide) (fun hc129 => ?_) (fun hc129 => ?_)
            · have e := ce_if1 e hc129
              refine lv_aload_n hx9 hb d12_asks_153 rfl (lv_at hl 2 rfl) ?_
              refine gf_12_89 C hH d12_asks_154 ?_
              refine lv_iload_n hx9 hb d12_asks_157 rfl (lv_at hl 3 rfl) ?_
              refine lv_aload_n hx9 hb d12_asks_158 rfl (lv_at hl 2 rfl) ?_
              refine gf_12_89 C hH d12_asks_159 ?_
              refine lv_iload hx9 hb d12_asks_162 (lv_at hl 1 rfl) ?_
              obtain ⟨hi164, e⟩ := ce_gd e
              refine ce_iald C hH lc_94.1 lc_94.2 (ce_in_vp hi164) d12_asks_164 ?_
              obtain ⟨hi165, e⟩ := ce_gd e
              refine ce_iast C hH lc_94.1 lc_94.2 (ce_in_vp hi165) d12_asks_165 (fun H locs hH => ?_)
              obtain ⟨h_165, eh_165, e⟩ := ce_nmE e
              rw [← eh_165] at hH
              refine lv_aload_n hx9 hb d12_asks_166 rfl (lv_at hl 2 rfl) ?_
              refine gf_12_92 C hH d12_asks_167 ?_
              refine lv_iload_n hx9 hb d12_asks_170 rfl (lv_at hl 3 rfl) ?_
              refine lv_iload hx9 hb d12_asks_171 (lv_at hl 0 rfl) ?_
              obtain ⟨hi173, e⟩ := ce_gd e
              refine ce_iast C hH lc_95.1 lc_95.2 (ce_in_vp hi173) d12_asks_173 (fun H locs hH => ?_)
              obtain ⟨h_173, eh_173, e⟩ := ce_nmE e
              rw [← eh_173] at hH
              refine lv_iinc (v := x3 + (1 : Int32)) (lv' := [(3, .int (x3 + (1 : Int32))), (5, .int (((o63 95 ((o52.1 / (4 : Int32))).toNatClampNeg) + (o63 69 ((1 : Int32)).toNatClampNeg)) + (o63 69 (((85 : Int32) + x3)).toNatClampNeg))), (4, .int (o52.1 / (4 : Int32))), (0, .ref (ad 68)), (1, .int x1), (2, .int x2)]) hx9 hb d12_asks_174 hl (k := 5) rfl rfl (by decide) rfl (fun ls hl => ?_)
              refine lv_goto (tgt := 30) hx9 hb d12_asks_177 (by decide) ?_
              exact ih (x3 + (1 : Int32)) h_173 _ _ _ hH (lv_sub hl [3, 4, 5, 0] rfl) e
            · have e := ce_if0 e hc129
              refine lv_iload hx9 hb d12_asks_132 (lv_at hl 0 rfl) ?_
              refine lv_aload_n hx9 hb d12_asks_134 rfl (lv_at hl 2 rfl) ?_
              refine gf_12_92 C hH d12_asks_135 ?_
              refine lv_iload_n hx9 hb d12_asks_138 rfl (lv_at hl 3 rfl) ?_
              obtain ⟨hi139, e⟩ := ce_gd e
              refine ce_iald C hH lc_95.1 lc_95.2 (ce_in_vp hi139) d12_asks_139 ?_
              refine lv_icmp_ge (tgt := 174) hx9 hb d12_asks_140 (by decide) (fun hc140 => ?_) (fun hc140 => ?_)
              · have e := ce_if1 e hc140
                refine lv_iinc (v := x3 + (1 : Int32)) (lv' := [(3, .int (x3 + (1 : Int32))), (5, .int (((o63 95 ((o52.1 / (4 : Int32))).toNatClampNeg) + (o63 69 ((1 : Int32)).toNatClampNeg)) + (o63 69 (((85 : Int32) + x3)).toNatClampNeg))), (4, .int (o52.1 / (4 : Int32))), (0, .ref (ad 68)), (1, .int x1), (2, .int x2)]) hx9 hb d12_asks_174 hl (k := 5) rfl rfl (by decide) rfl (fun ls hl => ?_)
                refine lv_goto (tgt := 30) hx9 hb d12_asks_177 (by decide) ?_
                exact ih (x3 + (1 : Int32)) o63 _ _ _ hH (lv_sub hl [3, 4, 5, 0] rfl) e
              · have e := ce_if0 e hc140
                refine lv_aload_n hx9 hb d12_asks_143 rfl (lv_at hl 2 rfl) ?_
                refine gf_12_89 C hH d12_asks_144 ?_
                refine lv_iload_n hx9 hb d12_asks_147 rfl (lv_at hl 3 rfl) ?_
                obtain ⟨hi148, e⟩ := ce_gd e
                refine ce_iald C hH lc_94.1 lc_94.2 (ce_in_vp hi148) d12_asks_148 ?_
                refine lv_iload_n hx9 hb d12_asks_149 rfl (lv_at hl 3 rfl) ?_
                refine lv_icmp_eq (tgt := 174) hx9 hb d12_asks_150 (by decide) (fun hc150 => ?_) (fun hc150 => ?_)
                · have e := ce_if1 e hc150
                  refine lv_iinc (v := x3 + (1 : Int32)) (lv' := [(3, .int (x3 + (1 : Int32))), (5, .int (((o63 95 ((o52.1 / (4 : Int32))).toNatClampNeg) + (o63 69 ((1 : Int32)).toNatClampNeg)) + (o63 69 (((85 : Int32) + x3)).toNatClampNeg))), (4, .int (o52.1 / (4 : Int32))), (0, .ref (ad 68)), (1, .int x1), (2, .int x2)]) hx9 hb d12_asks_174 hl (k := 5) rfl rfl (by decide) rfl (fun ls hl => ?_)
                  refine lv_goto (tgt := 30) hx9 hb d12_asks_177 (by decide) ?_
                  exact ih (x3 + (1 : Int32)) o63 _ _ _ hH (lv_sub hl [3, 4, 5, 0] rfl) e
                · have e := ce_if0 e hc150
                  refine lv_aload_n hx9 hb d12_asks_153 rfl (lv_at hl 2 rfl) ?_
                  refine gf_12_89 C hH d12_asks_154 ?_
                  refine lv_iload_n hx9 hb d12_asks_157 rfl (lv_at hl 3 rfl) ?_
                  refine lv_aload_n hx9 hb d12_asks_158 rfl (lv_at hl 2 rfl) ?_
                  refine gf_12_89 C hH d12_asks_159 ?_
                  refine lv_iload hx9 hb d12_asks_162 (lv_at hl 1 rfl) ?_
                  obtain ⟨hi164, e⟩ := ce_gd e
                  refine ce_iald C hH lc_94.1 lc_94.2 (ce_in_vp hi164) d12_asks_164 ?_
                  obtain ⟨hi165, e⟩ := ce_gd e
                  refine ce_iast C hH lc_94.1 lc_94.2 (ce_in_vp hi165) d12_asks_165 (fun H locs hH => ?_)
                  obtain ⟨h_165, eh_165, e⟩ := ce_nmE e
                  rw [← eh_165] at hH
                  refine lv_aload_n hx9 hb d12_asks_166 rfl (lv_at hl 2 rfl) ?_
                  refine gf_12_92 C hH d12_asks_167 ?_
                  refine lv_iload_n hx9 hb d12_asks_170 rfl (lv_at hl 3 rfl) ?_
                  refine lv_iload hx9 hb d12_asks_171 (lv_at hl 0 rfl) ?_
                  obtain ⟨hi173, e⟩ := ce_gd e
                  refine ce_iast C hH lc_95.1 lc_95.2 (ce_in_vp hi173) d12_asks_173 (fun H locs hH => ?_)
                  obtain ⟨h_173, eh_173, e⟩ := ce_nmE e
                  rw [← eh_173] at hH
                  refine lv_iinc (v := x3 + (1 : Int32)) (lv' := [(3, .int (x3 + (1 : Int32))), (5, .int (((o63 95 ((o52.1 / (4 : Int32))).toNatClampNeg) + (o63 69 ((1 : Int32)).toNatClampNeg)) + (o63 69 (((85 : Int32) + x3)).toNatClampNeg))), (4, .int (o52.1 / (4 : Int32))), (0, .ref (ad 68)), (1, .int x1), (2, .int x2)]) hx9 hb d12_asks_174 hl (k := 5) rfl rfl (by decide) rfl (fun ls hl => ?_)
                  refine lv_goto (tgt := 30) hx9 hb d12_asks_177 (by decide) ?_
                  exact ih (x3 + (1 : Int32)) h_173 _ _ _ hH (lv_sub hl [3, 4, 5, 0] rfl) e
          · have e := ce_if1 e hc96
            refine lv_iconst (v := (0 : Int32)) hx9 hb d12_asks_99 (by decide) ?_
            refine lv_goto (tgt := 109) hx9 hb d12_asks_100 (by decide) ?_
            refine lv_iadd hx9 hb d12_asks_109 ?_
            refine lv_aload_n hx9 hb d12_asks_110 rfl (lv_at hl 1 rfl) ?_
            refine gf_12_7 C hH d12_asks_111 ?_
            refine lv_bipush (v := (85 : Int32)) hx9 hb d12_asks_114 (by decide) ?_
            refine lv_iload_n hx9 hb d12_asks_116 rfl (lv_at hl 4 rfl) ?_
            refine lv_iadd hx9 hb d12_asks_117 ?_
            obtain ⟨hi118, e⟩ := ce_gd e
            refine ce_iald C hH lc_69.1 lc_69.2 (ce_in_vp hi118) d12_asks_118 ?_
            refine lv_iadd hx9 hb d12_asks_119 ?_
            refine lv_istore (lv' := [(5, .int (((o63 95 ((o52.1 / (4 : Int32))).toNatClampNeg) + (0 : Int32)) + (o63 69 (((85 : Int32) + x3)).toNatClampNeg))), (4, .int (o52.1 / (4 : Int32))), (0, .ref (ad 68)), (1, .int x1), (2, .int x2), (3, .int x3)]) hx9 hb d12_asks_120 hl (by decide) rfl (fun ls hl => ?_)
            refine lv_aload_n hx9 hb d12_asks_122 rfl (lv_at hl 2 rfl) ?_
            refine gf_12_89 C hH d12_asks_123 ?_
            refine lv_iload_n hx9 hb d12_asks_126 rfl (lv_at hl 3 rfl) ?_
            obtain ⟨hi127, e⟩ := ce_gd e
            refine ce_iald C hH lc_94.1 lc_94.2 (ce_in_vp hi127) d12_asks_127 ?_
            refine lv_iconst (v := (-1 : Int32)) hx9 hb d12_asks_128 (by decide) ?_
            refine lv_icmp_eq (tgt := 153) hx9 hb d12_asks_129 (by decide) (fun hc129 => ?_) (fun hc129 => ?_)
            · have e := ce_if1 e hc129
              refine lv_aload_n hx9 hb d12_asks_153 rfl (lv_at hl 2 rfl) ?_
              refine gf_12_89 C hH d12_asks_154 ?_
              refine lv_iload_n hx9 hb d12_asks_157 rfl (lv_at hl 3 rfl) ?_
              refine lv_aload_n hx9 hb d12_asks_158 rfl (lv_at hl 2 rfl) ?_
              refine gf_12_89 C hH d12_asks_159 ?_
              refine lv_iload hx9 hb d12_asks_162 (lv_at hl 1 rfl) ?_
              obtain ⟨hi164, e⟩ := ce_gd e
              refine ce_iald C hH lc_94.1 lc_94.2 (ce_in_vp hi164) d12_asks_164 ?_
              obtain ⟨hi165, e⟩ := ce_gd e
              refine ce_iast C hH lc_94.1 lc_94.2 (ce_in_vp hi165) d12_asks_165 (fun H locs hH => ?_)
              obtain ⟨h_165, eh_165, e⟩ := ce_nmE e
              rw [← eh_165] at hH
              refine lv_aload_n hx9 hb d12_asks_166 rfl (lv_at hl 2 rfl) ?_
              refine gf_12_92 C hH d12_asks_167 ?_
              refine lv_iload_n hx9 hb d12_asks_170 rfl (lv_at hl 3 rfl) ?_
              refine lv_iload hx9 hb d12_asks_171 (lv_at hl 0 rfl) ?_
              obtain ⟨hi173, e⟩ := ce_gd e
              refine ce_iast C hH lc_95.1 lc_95.2 (ce_in_vp hi173) d12_asks_173 (fun H locs hH => ?_)
              obtain ⟨h_173, eh_173, e⟩ := ce_nmE e
              rw [← eh_173] at hH
              refine lv_iinc (v := x3 + (1 : Int32)) (lv' := [(3, .int (x3 + (1 : Int32))), (5, .int (((o63 95 ((o52.1 / (4 : Int32))).toNatClampNeg) + (0 : Int32)) + (o63 69 (((85 : Int32) + x3)).toNatClampNeg))), (4, .int (o52.1 / (4 : Int32))), (0, .ref (ad 68)), (1, .int x1), (2, .int x2)]) hx9 hb d12_asks_174 hl (k := 5) rfl rfl (by decide) rfl (fun ls hl => ?_)
              refine lv_goto (tgt := 30) hx9 hb d12_asks_177 (by decide) ?_
              exact ih (x3 + (1 : Int32)) h_173 _ _ _ hH (lv_sub hl [3, 4, 5, 0] rfl) e
            · have e := ce_if0 e hc129
              refine lv_iload hx9 hb d12_asks_132 (lv_at hl 0 rfl) ?_
              refine lv_aload_n hx9 hb d12_asks_134 rfl (lv_at hl 2 rfl) ?_
              refine gf_12_92 C hH d12_asks_135 ?_
              refine lv_iload_n hx9 hb d12_asks_138 rfl (lv_at hl 3 rfl) ?_
              obtain ⟨hi139, e⟩ := ce_gd e
              refine ce_iald C hH lc_95.1 lc_95.2 (ce_in_vp hi139) d12_asks_139 ?_
              refine lv_icmp_ge (tgt := 174) hx9 hb d12_asks_140 (by decide) (fun hc140 => ?_) (fun hc140 => ?_)
              · have e := ce_if1 e hc140
                refine lv_iinc (v := x3 + (1 : Int32)) (lv' := [(3, .int (x3 + (1 : Int32))), (5, .int (((o63 95 ((o52.1 / (4 : Int32))).toNatClampNeg) + (0 : Int32)) + (o63 69 (((85 : Int32) + x3)).toNatClampNeg))), (4, .int (o52.1 / (4 : Int32))), (0, .ref (ad 68)), (1, .int x1), (2, .int x2)]) hx9 hb d12_asks_174 hl (k := 5) rfl rfl (by decide) rfl (fun ls hl => ?_)
                refine lv_goto (tgt := 30) hx9 hb d12_asks_177 (by decide) ?_
                exact ih (x3 + (1 : Int32)) o63 _ _ _ hH (lv_sub hl [3, 4, 5, 0] rfl) e
              · have e := ce_if0 e hc140
                refine lv_aload_n hx9 hb d12_asks_143 rfl (lv_at hl 2 rfl) ?_
                refine gf_12_89 C hH d12_asks_144 ?_
                refine lv_iload_n hx9 hb d12_asks_147 rfl (lv_at hl 3 rfl) ?_
                obtain ⟨hi148, e⟩ := ce_gd e
                refine ce_iald C hH lc_94.1 lc_94.2 (ce_in_vp hi148) d12_asks_148 ?_
                refine lv_iload_n hx9 hb d12_asks_149 rfl (lv_at hl 3 rfl) ?_
                refine lv_icmp_eq (tgt := 174) hx9 hb d12_asks_150 (by decide) (fun hc150 => ?_) (fun hc150 => ?_)
                · have e := ce_if1 e hc150
                  refine lv_iinc (v := x3 + (1 : Int32)) (lv' := [(3, .int (x3 + (1 : Int32))), (5, .int (((o63 95 ((o52.1 / (4 : Int32))).toNatClampNeg) + (0 : Int32)) + (o63 69 (((85 : Int32) + x3)).toNatClampNeg))), (4, .int (o52.1 / (4 : Int32))), (0, .ref (ad 68)), (1, .int x1), (2, .int x2)]) hx9 hb d12_asks_174 hl (k := 5) rfl rfl (by decide) rfl (fun ls hl => ?_)
                  refine lv_goto (tgt := 30) hx9 hb d12_asks_177 (by decide) ?_
                  exact ih (x3 + (1 : Int32)) o63 _ _ _ hH (lv_sub hl [3, 4, 5, 0] rfl) e
                · have e := ce_if0 e hc150
                  refine lv_aload_n hx9 hb d12_asks_153 rfl (lv_at hl 2 rfl) ?_
                  refine gf_12_89 C hH d12_asks_154 ?_
                  refine lv_iload_n hx9 hb d12_asks_157 rfl (lv_at hl 3 rfl) ?_
                  refine lv_aload_n hx9 hb d12_asks_158 rfl (lv_at hl 2 rfl) ?_
                  refine gf_12_89 C hH d12_asks_159 ?_
                  refine lv_iload hx9 hb d12_asks_162 (lv_at hl 1 rfl) ?_
                  obtain ⟨hi164, e⟩ := ce_gd e
                  refine ce_iald C hH lc_94.1 lc_94.2 (ce_in_vp hi164) d12_asks_164 ?_
                  obtain ⟨hi165, e⟩ := ce_gd e
                  refine ce_iast C hH lc_94.1 lc_94.2 (ce_in_vp hi165) d12_asks_165 (fun H locs hH => ?_)
                  obtain ⟨h_165, eh_165, e⟩ := ce_nmE e
                  rw [← eh_165] at hH
                  refine lv_aload_n hx9 hb d12_asks_166 rfl (lv_at hl 2 rfl) ?_
                  refine gf_12_92 C hH d12_asks_167 ?_
                  refine lv_iload_n hx9 hb d12_asks_170 rfl (lv_at hl 3 rfl) ?_
                  refine lv_iload hx9 hb d12_asks_171 (lv_at hl 0 rfl) ?_
                  obtain ⟨hi173, e⟩ := ce_gd e
                  refine ce_iast C hH lc_95.1 lc_95.2 (ce_in_vp hi173) d12_asks_173 (fun H locs hH => ?_)
                  obtain ⟨h_173, eh_173, e⟩ := ce_nmE e
                  rw [← eh_173] at hH
                  refine lv_iinc (v := x3 + (1 : Int32)) (lv' := [(3, .int (x3 + (1 : Int32))), (5, .int (((o63 95 ((o52.1 / (4 : Int32))).toNatClampNeg) + (0 : Int32)) + (o63 69 (((85 : Int32) + x3)).toNatClampNeg))), (4, .int (o52.1 / (4 : Int32))), (0, .ref (ad 68)), (1, .int x1), (2, .int x2)]) hx9 hb d12_asks_174 hl (k := 5) rfl rfl (by decide) rfl (fun ls hl => ?_)
                  refine lv_goto (tgt := 30) hx9 hb d12_asks_177 (by decide) ?_
                  exact ih (x3 + (1 : Int32)) h_173 _ _ _ hH (lv_sub hl [3, 4, 5, 0] rfl) e
        · have e := ce_if1 e hc74
          refine lv_goto (tgt := 174) hx9 hb d12_asks_77 (by decide) ?_
          refine lv_iinc (v := x3 + (1 : Int32)) (lv' := [(3, .int (x3 + (1 : Int32))), (4, .int (o52.1 / (4 : Int32))), (0, .ref (ad 68)), (1, .int x1), (2, .int x2)]) hx9 hb d12_asks_174 hl (k := 4) rfl rfl (by decide) rfl (fun ls hl => ?_)
          refine lv_goto (tgt := 30) hx9 hb d12_asks_177 (by decide) ?_
          exact ih (x3 + (1 : Int32)) o63 _ _ _ hH (lv_sub hl [2, 3, 4, 0] rfl) e
      · have e := ce_if1 e hc44
        refine lv_goto (tgt := 174) hx9 hb d12_asks_47 (by decide) ?_
        refine lv_iinc (v := x3 + (1 : Int32)) (lv' := [(3, .int (x3 + (1 : Int32))), (0, .ref (ad 68)), (1, .int x1), (2, .int x2)]) hx9 hb d12_asks_174 hl (k := 3) rfl rfl (by decide) rfl (fun ls hl => ?_)
        refine lv_goto (tgt := 30) hx9 hb d12_asks_177 (by decide) ?_
        exact ih (x3 + (1 : Int32)) o41.2 _ _ _ hH (lv_sub hl [1, 2, 3, 0] rfl) e
def f12_asks (F : Nat) : Nat → Int32 → Int32 → Hp → Option (Hp)
  | 0, _, _, _ => none
  | d + 1, x1, x2, h =>
    Option.bind (f12_has F x2 x1 h) (fun o7 =>
      if o7.1 = 0 then
        if ce_in x1 10 = true then
          ce_nm (hp_up o7.2 94 (x1).toNatClampNeg (-1 : Int32)) (fun h_18 =>
            if ce_in x1 10 = true then
              ce_nm (hp_up h_18 95 (x1).toNatClampNeg (0 : Int32)) (fun h_25 =>
                Option.bind (ce_it (fun (st : Int32 × Hp) => f12_asks_b30 F (f12_asks F d) x1 x2 st.1 st.2) F ((4 : Int32) * x1, h_25)) (fun o30 =>
                  some o30))
            else none)
        else none
      else
        if ce_in x1 10 = true then
          ce_nm (hp_up o7.2 94 (x1).toNatClampNeg x1) (fun h_18 =>
            if ce_in x1 10 = true then
              ce_nm (hp_up h_18 95 (x1).toNatClampNeg (0 : Int32)) (fun h_25 =>
                Option.bind (ce_it (fun (st : Int32 × Hp) => f12_asks_b30 F (f12_asks F d) x1 x2 st.1 st.2) F ((4 : Int32) * x1, h_25)) (fun o30 =>
                  some o30))
            else none)
        else none)
set_option maxRecDepth 20000 in
theorem c12_asks (l : Launch) (D : va_G) (ad : Nat → Nat) (cA : Nat → ClassId) (aK aV : Nat → Nat) (B0 : Nat) (hA : ce_Ad ad B0) (F : Nat) : ∀ (d : Nat) (x1 : Int32) (x2 : Int32)  (h : Hp) (r : Hp), f12_asks F d x1 x2 h = some r → ce_Ct l D ad cA B0 (ce_St aK aV B0) y12_asks b12_asks 6 none (1 + d) (43 + d * 25) 0 0 [.ref (ad 68), .int x1, .int x2] h none r := by
  intro d
  induction d with
  | zero =>
    intro x1 x2  h r e
    exact absurd e (fun z => by cases z)
  | succ d ihd =>
    intro x1 x2  h r e
    refine ce_enter hA (by decide) rfl (Nat.le_of_ble_eq_true rfl) (fun p e0 s m below meth c ls C hH hl => ?_)
    have hl : lv_has ls 6 [(0, .ref (ad 68)), (1, .int x1), (2, .int x2)] := hl
    have hx := C.1
    have hb := C.2.1
    obtain ⟨rc, erc⟩ : ∃ z, z = f12_asks F d := ⟨_, rfl⟩
    rw [← erc] at ihd
    have hrc := ihd
    have e : Option.bind _ some = some r := (congrArg (fun z => Option.bind z some) e).trans rfl
    unfold f12_asks at e
    rw [← erc] at e
    refine lv_aload_n hx hb d12_asks_0 rfl (lv_at hl 0 rfl) ?_
    refine gf_12_89 C hH d12_asks_1 ?_
    refine lv_iload_n hx hb d12_asks_4 rfl (lv_at hl 1 rfl) ?_
    refine lv_iload_n hx hb d12_asks_5 rfl (lv_at hl 2 rfl) ?_
    refine lv_iload_n hx hb d12_asks_6 rfl (lv_at hl 1 rfl) ?_
    obtain ⟨o7, eo7, e⟩ := ce_bd e
    refine ce_callS (As := [.int x2, .int x1]) (rest := [.int x1, .ref (ad 94)]) C (ce_sok aK aV B0) hH (c12_has l D ad cA aK aV B0 C.2.2.2.2.2.2.1 F x2 x1  h o7 eo7) mc12_has ml_12_349 mt12_has mI_12 (n := 2) (by decide) rfl ⟨show 0 + 1 ≤ 1 + (d + 1) by omega, show 8 + (2 + 11) + 0 ≤ 43 + (d + 1) * 25 by omega⟩ ⟨Nat.le_of_ble_eq_true rfl, Nat.le_of_ble_eq_true rfl⟩ hl.1 rfl (Nat.le_of_ble_eq_true rfl) d12_asks_7 (fun H locs hH => ?_)
    refine W.eq (g2 := F0 m 10 ls [.int o7.1, .int x1, .ref (ad 94)]) rfl ?_
    refine lv_if_eq (tgt := 17) hx hb d12_asks_10 (by decide) (fun hc10 => ?_) (fun hc10 => ?_)
    · have e := ce_if1 e hc10
      refine lv_iconst (v := (-1 : Int32)) hx hb d12_asks_17 (by decide) ?_
      obtain ⟨hi18, e⟩ := ce_gd e
      refine ce_iast C hH lc_94.1 lc_94.2 (ce_in_vp hi18) d12_asks_18 (fun H locs hH => ?_)
      obtain ⟨h_18, eh_18, e⟩ := ce_nmE e
      rw [← eh_18] at hH
      refine lv_aload_n hx hb d12_asks_19 rfl (lv_at hl 0 rfl) ?_
      refine gf_12_92 C hH d12_asks_20 ?_
      refine lv_iload_n hx hb d12_asks_23 rfl (lv_at hl 1 rfl) ?_
      refine lv_iconst (v := (0 : Int32)) hx hb d12_asks_24 (by decide) ?_
      obtain ⟨hi25, e⟩ := ce_gd e
      refine ce_iast C hH lc_95.1 lc_95.2 (ce_in_vp hi25) d12_asks_25 (fun H locs hH => ?_)
      obtain ⟨h_25, eh_25, e⟩ := ce_nmE e
      rw [← eh_25] at hH
      refine lv_iconst (v := (4 : Int32)) hx hb d12_asks_26 (by decide) ?_
      refine lv_iload_n hx hb d12_asks_27 rfl (lv_at hl 1 rfl) ?_
      refine lv_imul hx hb d12_asks_28 ?_
      refine lv_istore_n (lv' := [(3, .int ((4 : Int32) * x1)), (0, .ref (ad 68)), (1, .int x1), (2, .int x2)]) hx hb d12_asks_29 rfl hl (by decide) rfl (fun ls hl => ?_)
      refine l12_asks_30 C d rc hrc F x1 x2  r _ (fun  h_30 H locs ls hH hl e => ?_) F ((4 : Int32) * x1) h_25 _ _ _ hH (lv_sub hl [1, 2, 3, 0] rfl) (ce_as e)
      try dsimp only at e
      exact ce_vret C (ce_sok aK aV B0) hH (Option.some.inj e) d12_asks_180
    · have e := ce_if0 e hc10
      refine lv_iload_n hx hb d12_asks_13 rfl (lv_at hl 1 rfl) ?_
      refine lv_goto (tgt := 18) hx hb d12_asks_14 (by decide) ?_
      obtain ⟨hi18, e⟩ := ce_gd e
      refine ce_iast C hH lc_94.1 lc_94.2 (ce_in_vp hi18) d12_asks_18 (fun H locs hH => ?_)
      obtain ⟨h_18, eh_18, e⟩ := ce_nmE e
      rw [← eh_18] at hH
      refine lv_aload_n hx hb d12_asks_19 rfl (lv_at hl 0 rfl) ?_
      refine gf_12_92 C hH d12_asks_20 ?_
      refine lv_iload_n hx hb d12_asks_23 rfl (lv_at hl 1 rfl) ?_
      refine lv_iconst (v := (0 : Int32)) hx hb d12_asks_24 (by decide) ?_
      obtain ⟨hi25, e⟩ := ce_gd e
      refine ce_iast C hH lc_95.1 lc_95.2 (ce_in_vp hi25) d12_asks_25 (fun H locs hH => ?_)
      obtain ⟨h_25, eh_25, e⟩ := ce_nmE e
      rw [← eh_25] at hH
      refine lv_iconst (v := (4 : Int32)) hx hb d12_asks_26 (by decide) ?_
      refine lv_iload_n hx hb d12_asks_27 rfl (lv_at hl 1 rfl) ?_
      refine lv_imul hx hb d12_asks_28 ?_
      refine lv_istore_n (lv' := [(3, .int ((4 : Int32) * x1)), (0, .ref (ad 68)), (1, .int x1), (2, .int x2)]) hx hb d12_asks_29 rfl hl (by decide) rfl (fun ls hl => ?_)
      refine l12_asks_30 C d rc hrc F x1 x2  r _ (fun  h_30 H locs ls hH hl e => ?_) F ((4 : Int32) * x1) h_25 _ _ _ hH (lv_sub hl [1, 2, 3, 0] rfl) (ce_as e)
      try dsimp only at e
      exact ce_vret C (ce_sok aK aV B0) hH (Option.some.inj e) d12_asks_180
end C18
