-- C20: functions and contracts, written by wip/whole/gen (mgen.py, walk.py, walk2.py) out of the bytecode
section C20
variable {p : Program} {l : Launch} {e0 : Env} {R : Room} {s : State} {m : MethodId} {args : Array Value} {below : List Frame} {meth : Method} {c : Code} {H : Heap} {locs : List Loc} {cells slots : Nat} {Q : State → Prop}
variable {cc : ByteArray} {pc nL : Nat} {ret : Option FieldType} {ls : Array Slot} {rest : List Value} {D : va_G} {ad : Nat → Nat} {cA : Nat → ClassId} {B0 : Nat} {X : va_W} {h : Hp} {aK aV : Nat → Nat}
abbrev b12_spare : ByteArray := prog_14_method_94_code
def y12_spare : MethodName := ⟨cn_12, "spare", "(I)I"⟩
theorem d12_spare_0 : decode b12_spare 0 = .ok (.aload_n 0, 1) := by decide +kernel
theorem d12_spare_1 : decode b12_spare 1 = .ok (.iload_n 1, 1) := by decide +kernel
theorem d12_spare_2 : decode b12_spare 2 = .ok (.invokevirtual 220, 3) := by decide +kernel
theorem d12_spare_5 : decode b12_spare 5 = .ok (.ifCond .ne 6, 3) := by decide +kernel
theorem d12_spare_8 : decode b12_spare 8 = .ok (.bipush (-2), 2) := by decide +kernel
theorem d12_spare_10 : decode b12_spare 10 = .ok (.ireturn, 1) := by decide +kernel
theorem d12_spare_11 : decode b12_spare 11 = .ok (.iconst (-1), 1) := by decide +kernel
theorem d12_spare_12 : decode b12_spare 12 = .ok (.istore_n 2, 1) := by decide +kernel
theorem d12_spare_13 : decode b12_spare 13 = .ok (.aload_n 0, 1) := by decide +kernel
theorem d12_spare_14 : decode b12_spare 14 = .ok (.iload_n 1, 1) := by decide +kernel
theorem d12_spare_15 : decode b12_spare 15 = .ok (.invokevirtual 233, 3) := by decide +kernel
theorem d12_spare_18 : decode b12_spare 18 = .ok (.ifCond .eq 8, 3) := by decide +kernel
theorem d12_spare_21 : decode b12_spare 21 = .ok (.ldc 245, 2) := by decide +kernel
theorem d12_spare_23 : decode b12_spare 23 = .ok (.goto 8, 3) := by decide +kernel
theorem d12_spare_26 : decode b12_spare 26 = .ok (.aload_n 0, 1) := by decide +kernel
theorem d12_spare_27 : decode b12_spare 27 = .ok (.iload_n 1, 1) := by decide +kernel
theorem d12_spare_28 : decode b12_spare 28 = .ok (.invokevirtual 313, 3) := by decide +kernel
theorem d12_spare_31 : decode b12_spare 31 = .ok (.istore_n 3, 1) := by decide +kernel
theorem d12_spare_32 : decode b12_spare 32 = .ok (.aload_n 0, 1) := by decide +kernel
theorem d12_spare_33 : decode b12_spare 33 = .ok (.iload_n 1, 1) := by decide +kernel
theorem d12_spare_34 : decode b12_spare 34 = .ok (.invokevirtual 230, 3) := by decide +kernel
theorem d12_spare_37 : decode b12_spare 37 = .ok (.istore 4, 2) := by decide +kernel
theorem d12_spare_39 : decode b12_spare 39 = .ok (.iconst 0, 1) := by decide +kernel
theorem d12_spare_40 : decode b12_spare 40 = .ok (.istore 5, 2) := by decide +kernel
theorem d12_spare_42 : decode b12_spare 42 = .ok (.iload 5, 2) := by decide +kernel
theorem d12_spare_44 : decode b12_spare 44 = .ok (.bipush 40, 2) := by decide +kernel
theorem d12_spare_46 : decode b12_spare 46 = .ok (.if_icmp .ge 101, 3) := by decide +kernel
theorem d12_spare_49 : decode b12_spare 49 = .ok (.aload_n 0, 1) := by decide +kernel
theorem d12_spare_50 : decode b12_spare 50 = .ok (.iload 5, 2) := by decide +kernel
theorem d12_spare_52 : decode b12_spare 52 = .ok (.invokevirtual 224, 3) := by decide +kernel
theorem d12_spare_55 : decode b12_spare 55 = .ok (.istore 6, 2) := by decide +kernel
theorem d12_spare_57 : decode b12_spare 57 = .ok (.iload 6, 2) := by decide +kernel
theorem d12_spare_59 : decode b12_spare 59 = .ok (.iload 5, 2) := by decide +kernel
theorem d12_spare_61 : decode b12_spare 61 = .ok (.if_icmp .ge 6, 3) := by decide +kernel
theorem d12_spare_64 : decode b12_spare 64 = .ok (.goto 77, 3) := by decide +kernel
theorem d12_spare_67 : decode b12_spare 67 = .ok (.aload_n 0, 1) := by decide +kernel
theorem d12_spare_68 : decode b12_spare 68 = .ok (.getfield 7, 3) := by decide +kernel
theorem d12_spare_71 : decode b12_spare 71 = .ok (.bipush 85, 2) := by decide +kernel
theorem d12_spare_73 : decode b12_spare 73 = .ok (.iload 5, 2) := by decide +kernel
theorem d12_spare_75 : decode b12_spare 75 = .ok (.iadd, 1) := by decide +kernel
theorem d12_spare_76 : decode b12_spare 76 = .ok (.iaload, 1) := by decide +kernel
theorem d12_spare_77 : decode b12_spare 77 = .ok (.istore 7, 2) := by decide +kernel
theorem d12_spare_79 : decode b12_spare 79 = .ok (.aload_n 0, 1) := by decide +kernel
theorem d12_spare_80 : decode b12_spare 80 = .ok (.iload 5, 2) := by decide +kernel
theorem d12_spare_82 : decode b12_spare 82 = .ok (.invokevirtual 373, 3) := by decide +kernel
theorem d12_spare_85 : decode b12_spare 85 = .ok (.aload_n 0, 1) := by decide +kernel
theorem d12_spare_86 : decode b12_spare 86 = .ok (.iload_n 1, 1) := by decide +kernel
theorem d12_spare_87 : decode b12_spare 87 = .ok (.invokevirtual 230, 3) := by decide +kernel
theorem d12_spare_90 : decode b12_spare 90 = .ok (.iload 4, 2) := by decide +kernel
theorem d12_spare_92 : decode b12_spare 92 = .ok (.if_icmp .ne 39, 3) := by decide +kernel
theorem d12_spare_95 : decode b12_spare 95 = .ok (.aload_n 0, 1) := by decide +kernel
theorem d12_spare_96 : decode b12_spare 96 = .ok (.iload_n 1, 1) := by decide +kernel
theorem d12_spare_97 : decode b12_spare 97 = .ok (.invokevirtual 233, 3) := by decide +kernel
theorem d12_spare_100 : decode b12_spare 100 = .ok (.ifCond .ne 31, 3) := by decide +kernel
theorem d12_spare_103 : decode b12_spare 103 = .ok (.aload_n 0, 1) := by decide +kernel
theorem d12_spare_104 : decode b12_spare 104 = .ok (.iload_n 1, 1) := by decide +kernel
theorem d12_spare_105 : decode b12_spare 105 = .ok (.invokevirtual 313, 3) := by decide +kernel
theorem d12_spare_108 : decode b12_spare 108 = .ok (.iload_n 3, 1) := by decide +kernel
theorem d12_spare_109 : decode b12_spare 109 = .ok (.if_icmp .ge 22, 3) := by decide +kernel
theorem d12_spare_112 : decode b12_spare 112 = .ok (.aload_n 0, 1) := by decide +kernel
theorem d12_spare_113 : decode b12_spare 113 = .ok (.iload_n 1, 1) := by decide +kernel
theorem d12_spare_114 : decode b12_spare 114 = .ok (.invokevirtual 313, 3) := by decide +kernel
theorem d12_spare_117 : decode b12_spare 117 = .ok (.istore_n 3, 1) := by decide +kernel
theorem d12_spare_118 : decode b12_spare 118 = .ok (.bipush 10, 2) := by decide +kernel
theorem d12_spare_120 : decode b12_spare 120 = .ok (.iload 5, 2) := by decide +kernel
theorem d12_spare_122 : decode b12_spare 122 = .ok (.iconst 4, 1) := by decide +kernel
theorem d12_spare_123 : decode b12_spare 123 = .ok (.idiv, 1) := by decide +kernel
theorem d12_spare_124 : decode b12_spare 124 = .ok (.imul, 1) := by decide +kernel
theorem d12_spare_125 : decode b12_spare 125 = .ok (.iload 5, 2) := by decide +kernel
theorem d12_spare_127 : decode b12_spare 127 = .ok (.iconst 4, 1) := by decide +kernel
theorem d12_spare_128 : decode b12_spare 128 = .ok (.irem, 1) := by decide +kernel
theorem d12_spare_129 : decode b12_spare 129 = .ok (.iadd, 1) := by decide +kernel
theorem d12_spare_130 : decode b12_spare 130 = .ok (.istore_n 2, 1) := by decide +kernel
theorem d12_spare_131 : decode b12_spare 131 = .ok (.aload_n 0, 1) := by decide +kernel
theorem d12_spare_132 : decode b12_spare 132 = .ok (.iload 5, 2) := by decide +kernel
theorem d12_spare_134 : decode b12_spare 134 = .ok (.iload 6, 2) := by decide +kernel
theorem d12_spare_136 : decode b12_spare 136 = .ok (.iload 7, 2) := by decide +kernel
theorem d12_spare_138 : decode b12_spare 138 = .ok (.invokevirtual 204, 3) := by decide +kernel
theorem d12_spare_141 : decode b12_spare 141 = .ok (.iinc 5 1, 3) := by decide +kernel
theorem d12_spare_144 : decode b12_spare 144 = .ok (.goto (-102), 3) := by decide +kernel
theorem d12_spare_147 : decode b12_spare 147 = .ok (.iload_n 2, 1) := by decide +kernel
theorem d12_spare_148 : decode b12_spare 148 = .ok (.ireturn, 1) := by decide +kernel
def f12_spare_b42 (F : Nat) (x1 : Int32) (x4 : Int32) (x2 : Int32) (x3 : Int32) (x5 : Int32) (h : Hp) : Option ((Int32 × Int32 × Int32 × Hp) ⊕ (Int32 × Hp)) :=
  if (40 : Int32) ≤ x5 then
    some (.inr (x2, h))
  else
    Option.bind (f12_otherOf F x5 h) (fun o52 =>
      if x5 ≤ o52.1 then
        if ce_in ((85 : Int32) + x5) 125 = true then
          Option.bind (f12_takes F x5 o52.2) (fun o82 =>
            Option.bind (f12_sizeOf F x1 o82) (fun o87 =>
              if o87.1 = x4 then
                Option.bind (f12_isLoop F x1 o87.2) (fun o97 =>
                  if o97.1 = 0 then
                    Option.bind (f12_gapOf F x1 o97.2) (fun o105 =>
                      if x3 ≤ o105.1 then
                        Option.bind (f12_lays F x5 o52.1 (o52.2 69 (((85 : Int32) + x5)).toNatClampNeg) o105.2) (fun o138 =>
                          some (.inl (x2, x3, x5 + (1 : Int32), o138)))
                      else
                        Option.bind (f12_gapOf F x1 o105.2) (fun o114 =>
                          Option.bind (f12_lays F x5 o52.1 (o52.2 69 (((85 : Int32) + x5)).toNatClampNeg) o114.2) (fun o138 =>
                            some (.inl (((10 : Int32) * (x5 / (4 : Int32))) + (x5 - x5 / (4 : Int32) * (4 : Int32)), o114.1, x5 + (1 : Int32), o138)))))
                  else
                    Option.bind (f12_lays F x5 o52.1 (o52.2 69 (((85 : Int32) + x5)).toNatClampNeg) o97.2) (fun o138 =>
                      some (.inl (x2, x3, x5 + (1 : Int32), o138))))
              else
                Option.bind (f12_lays F x5 o52.1 (o52.2 69 (((85 : Int32) + x5)).toNatClampNeg) o87.2) (fun o138 =>
                  some (.inl (x2, x3, x5 + (1 : Int32), o138)))))
        else none
      else
        some (.inl (x2, x3, x5 + (1 : Int32), o52.2)))
set_option maxRecDepth 20000 in
theorem l12_spare_42 (C : ce_Cx p s m args c meth b12_spare 8 (some .int) cn_12 D ad cA B0 (ce_St aK aV B0)) (F : Nat) (x1 : Int32) (x4 : Int32)  (r : Int32 × Hp) (g : (Int32 × Hp) → Option (Int32 × Hp)) (hx : ∀ (x2 : Int32) (h : Hp) (H : Heap) (locs : List Loc) (ls : Array Slot), ce_H D ad cA B0 [] s h H locs → lv_has ls 8 [(2, .int x2)] → g (x2, h) = some r → W p l e0 { frames := 17, cells := 0, slots := 0, locals := 435 } s m args below meth c H locs 0 0 (MQ below (ce_Q D ad cA B0 (ce_St aK aV B0) (some (.int r.1)) r.2) args s 0 0 (fun q => B0 ≤ q)) (F0 m 147 ls [])) : ∀ (n : Nat) (x2 : Int32) (x3 : Int32) (x5 : Int32) (h : Hp) (H : Heap) (locs : List Loc) (ls : Array Slot), ce_H D ad cA B0 [] s h H locs → lv_has ls 8 [(0, .ref (ad 68)), (1, .int x1), (2, .int x2), (3, .int x3), (4, .int x4), (5, .int x5)] → Option.bind (ce_it (fun (st : Int32 × Int32 × Int32 × Hp) => f12_spare_b42 F x1 x4 st.1 st.2.1 st.2.2.1 st.2.2.2) n (x2, x3, x5, h)) g = some r → W p l e0 { frames := 17, cells := 0, slots := 0, locals := 435 } s m args below meth c H locs 0 0 (MQ below (ce_Q D ad cA B0 (ce_St aK aV B0) (some (.int r.1)) r.2) args s 0 0 (fun q => B0 ≤ q)) (F0 m 42 ls []) := by
  intro n
  induction n with
  | zero =>
    intro x2 x3 x5 h H locs ls hH hl e
    exact absurd e (fun z => by cases z)
  | succ n ih =>
    intro x2 x3 x5 h H locs ls hH hl e
    have hx9 := C.1
    have hb := C.2.1
    have e : Option.bind (f12_spare_b42 F x1 x4 x2 x3 x5 h) _ = some r := ce_it_bd e
    unfold f12_spare_b42 at e
    refine lv_iload hx9 hb d12_spare_42 (lv_at hl 5 rfl) ?_
    refine lv_bipush (v := (40 : Int32)) hx9 hb d12_spare_44 (by decide) ?_
    refine lv_icmp_ge (tgt := 147) hx9 hb d12_spare_46 (by decide) (fun hc46 => ?_) (fun hc46 => ?_)
    · have e := ce_if1 e hc46
      exact hx x2 h _ _ _ hH (lv_sub hl [2] rfl) e
    · have e := ce_if0 e hc46
      refine lv_aload_n hx9 hb d12_spare_49 rfl (lv_at hl 0 rfl) ?_
      refine lv_iload hx9 hb d12_spare_50 (lv_at hl 5 rfl) ?_
      obtain ⟨o52, eo52, e⟩ := ce_bd e
      refine ce_callV (As := [.int x5]) (rest := []) C (ce_sok aK aV B0) hH (c12_otherOf l D ad cA aK aV B0 C.2.2.2.2.2.2.1 F x5  h o52 eo52) lo_68.1 lo_68.2.choose_spec rfl rfl mc12_otherOf ml_12_224 mi12_otherOf ms12_otherOf mI_12 (n := 1) (by decide) rfl ⟨Nat.le_of_ble_eq_true rfl, Nat.le_of_ble_eq_true rfl⟩ ⟨Nat.le_of_ble_eq_true rfl, Nat.le_of_ble_eq_true rfl⟩ hl.1 rfl (Nat.le_of_ble_eq_true rfl) d12_spare_52 (fun H locs hH => ?_)
      refine W.eq (g2 := F0 m 55 ls [.int o52.1]) rfl ?_
      refine lv_istore (lv' := [(6, .int o52.1), (0, .ref (ad 68)), (1, .int x1), (2, .int x2), (3, .int x3), (4, .int x4), (5, .int x5)]) hx9 hb d12_spare_55 hl (by decide) rfl (fun ls hl => ?_)
      refine lv_iload hx9 hb d12_spare_57 (lv_at hl 0 rfl) ?_
      refine lv_iload hx9 hb d12_spare_59 (lv_at hl 6 rfl) ?_
      refine lv_icmp_ge (tgt := 67) hx9 hb d12_spare_61 (by decide) (fun hc61 => ?_) (fun hc61 => ?_)
      · have e := ce_if1 e hc61
        refine lv_aload_n hx9 hb d12_spare_67 rfl (lv_at hl 1 rfl) ?_
        refine gf_12_7 C hH d12_spare_68 ?_
        refine lv_bipush (v := (85 : Int32)) hx9 hb d12_spare_71 (by decide) ?_
        refine lv_iload hx9 hb d12_spare_73 (lv_at hl 6 rfl) ?_
        refine lv_iadd hx9 hb d12_spare_75 ?_
        obtain ⟨hi76, e⟩ := ce_gd e
        refine ce_iald C hH lc_69.1 lc_69.2 (ce_in_vp hi76) d12_spare_76 ?_
        refine lv_istore (lv' := [(7, .int (o52.2 69 (((85 : Int32) + x5)).toNatClampNeg)), (6, .int o52.1), (0, .ref (ad 68)), (1, .int x1), (2, .int x2), (3, .int x3), (4, .int x4), (5, .int x5)]) hx9 hb d12_spare_77 hl (by decide) rfl (fun ls hl => ?_)
        refine lv_aload_n hx9 hb d12_spare_79 rfl (lv_at hl 2 rfl) ?_
        refine lv_iload hx9 hb d12_spare_80 (lv_at hl 7 rfl) ?_
        obtain ⟨o82, eo82, e⟩ := ce_bd e
        refine ce_callV (As := [.int x5]) (rest := []) C (ce_sok aK aV B0) hH (c12_takes l D ad cA aK aV B0 C.2.2.2.2.2.2.1 F x5  o52.2 o82 eo82) lo_68.1 lo_68.2.choose_spec rfl rfl mc12_takes ml_12_373 mi12_takes ms12_takes mI_12 (n := 1) (by decide) rfl ⟨Nat.le_of_ble_eq_true rfl, Nat.le_of_ble_eq_true rfl⟩ ⟨Nat.le_of_ble_eq_true rfl, Nat.le_of_ble_eq_true rfl⟩ hl.1 rfl (Nat.le_of_ble_eq_true rfl) d12_spare_82 (fun H locs hH => ?_)
        refine W.eq (g2 := F0 m 85 ls []) rfl ?_
        refine lv_aload_n hx9 hb d12_spare_85 rfl (lv_at hl 2 rfl) ?_
        refine lv_iload_n hx9 hb d12_spare_86 rfl (lv_at hl 3 rfl) ?_
        obtain ⟨o87, eo87, e⟩ := ce_bd e
        refine ce_callV (As := [.int x1]) (rest := []) C (ce_sok aK aV B0) hH (c12_sizeOf l D ad cA aK aV B0 C.2.2.2.2.2.2.1 F x1  o82 o87 eo87) lo_68.1 lo_68.2.choose_spec rfl rfl mc12_sizeOf ml_12_230 mi12_sizeOf ms12_sizeOf mI_12 (n := 1) (by decide) rfl ⟨Nat.le_of_ble_eq_true rfl, Nat.le_of_ble_eq_true rfl⟩ ⟨Nat.le_of_ble_eq_true rfl, Nat.le_of_ble_eq_true rfl⟩ hl.1 rfl (Nat.le_of_ble_eq_true rfl) d12_spare_87 (fun H locs hH => ?_)
        refine W.eq (g2 := F0 m 90 ls [.int o87.1]) rfl ?_
        refine lv_iload hx9 hb d12_spare_90 (lv_at hl 6 rfl) ?_
        refine lv_icmp_ne (tgt := 131) hx9 hb d12_spare_92 (by decide) (fun hc92 => ?_) (fun hc92 => ?_)
        · have e := ce_if0 e hc92
          refine lv_aload_n hx9 hb d12_spare_131 rfl (lv_at hl 2 rfl) ?_
          refine lv_iload hx9 hb d12_spare_132 (lv_at hl 7 rfl) ?_
          refine lv_iload hx9 hb d12_spare_134 (lv_at hl 1 rfl) ?_
          refine lv_iload hx9 hb d12_spare_136 (lv_at hl 0 rfl) ?_
          obtain ⟨o138, eo138, e⟩ := ce_bd e
          refine ce_callV (As := [.int x5, .int o52.1, .int (o52.2 69 (((85 : Int32) + x5)).toNatClampNeg)]) (rest := []) C (ce_sok aK aV B0) hH (c12_lays l D ad cA aK aV B0 C.2.2.2.2.2.2.1 F x5 o52.1 (o52.2 69 (((85 : Int32) + x5)).toNatClampNeg)  o87.2 o138 eo138) lo_68.1 lo_68.2.choose_spec rfl rfl mc12_lays ml_12_204 mi12_lays ms12_lays mI_12 (n := 3) (by decide) rfl ⟨Nat.le_of_ble_eq_true rfl, Nat.le_of_ble_eq_true rfl⟩ ⟨Nat.le_of_ble_eq_true rfl, Nat.le_of_ble_eq_true rfl⟩ hl.1 rfl (Nat.le_of_ble_eq_true rfl) d12_spare_138 (fun H locs hH => ?_)
          refine W.eq (g2 := F0 m 141 ls []) rfl ?_
          refine lv_iinc (v := x5 + (1 : Int32)) (lv' := [(5, .int (x5 + (1 : Int32))), (7, .int (o52.2 69 (((85 : Int32) + x5)).toNatClampNeg)), (6, .int o52.1), (0, .ref (ad 68)), (1, .int x1), (2, .int x2), (3, .int x3), (4, .int x4)]) hx9 hb d12_spare_141 hl (k := 7) rfl rfl (by decide) rfl (fun ls hl => ?_)
          refine lv_goto (tgt := 42) hx9 hb d12_spare_144 (by decide) ?_
          exact ih x2 x3 (x5 + (1 : Int32)) o138 _ _ _ hH (lv_sub hl [3, 4, 5, 6, 7, 0] rfl) e
        · have e := ce_if1 e hc92
          refine lv_aload_n hx9 hb d12_spare_95 rfl (lv_at hl 2 rfl) ?_
          refine lv_iload_n hx9 hb d12_spare_96 rfl (lv_at hl 3 rfl) ?_
          obtain ⟨o97, eo97, e⟩ := ce_bd e
          refine ce_callV (As := [.int x1]) (rest := []) C (ce_sok aK aV B0) hH (c12_isLoop l D ad cA aK aV B0 C.2.2.2.2.2.2.1 F x1  o87.2 o97 eo97) lo_68.1 lo_68.2.choose_spec rfl rfl mc12_isLoop ml_12_233 mi12_isLoop ms12_isLoop mI_12 (n := 1) (by decide) rfl ⟨Nat.le_of_ble_eq_true rfl, Nat.le_of_ble_eq_true rfl⟩ ⟨Nat.le_of_ble_eq_true rfl, Nat.le_of_ble_eq_true rfl⟩ hl.1 rfl (Nat.le_of_ble_eq_true rfl) d12_spare_97 (fun H locs hH => ?_)
          refine W.eq (g2 := F0 m 100 ls [.int o97.1]) rfl ?_
          refine lv_if_ne (tgt := 131) hx9 hb d12_spare_100 (by decide) (fun hc100 => ?_) (fun hc100 => ?_)
          · have e := ce_if0 e hc100
            refine lv_aload_n hx9 hb d12_spare_131 rfl (lv_at hl 2 rfl) ?_
            refine lv_iload hx9 hb d12_spare_132 (lv_at hl 7 rfl) ?_
            refine lv_iload hx9 hb d12_spare_134 (lv_at hl 1 rfl) ?_
            refine lv_iload hx9 hb d12_spare_136 (lv_at hl 0 rfl) ?_
            obtain ⟨o138, eo138, e⟩ := ce_bd e
            refine ce_callV (As := [.int x5, .int o52.1, .int (o52.2 69 (((85 : Int32) + x5)).toNatClampNeg)]) (rest := []) C (ce_sok aK aV B0) hH (c12_lays l D ad cA aK aV B0 C.2.2.2.2.2.2.1 F x5 o52.1 (o52.2 69 (((85 : Int32) + x5)).toNatClampNeg)  o97.2 o138 eo138) lo_68.1 lo_68.2.choose_spec rfl rfl mc12_lays ml_12_204 mi12_lays ms12_lays mI_12 (n := 3) (by decide) rfl ⟨Nat.le_of_ble_eq_true rfl, Nat.le_of_ble_eq_true rfl⟩ ⟨Nat.le_of_ble_eq_true rfl, Nat.le_of_ble_eq_true rfl⟩ hl.1 rfl (Nat.le_of_ble_eq_true rfl) d12_spare_138 (fun H locs hH => ?_)
            refine W.eq (g2 := F0 m 141 ls []) rfl ?_
            refine lv_iinc (v := x5 + (1 : Int32)) (lv' := [(5, .int (x5 + (1 : Int32))), (7, .int (o52.2 69 (((85 : Int32) + x5)).toNatClampNeg)), (6, .int o52.1), (0, .ref (ad 68)), (1, .int x1), (2, .int x2), (3, .int x3), (4, .int x4)]) hx9 hb d12_spare_141 hl (k := 7) rfl rfl (by decide) rfl (fun ls hl => ?_)
            refine lv_goto (tgt := 42) hx9 hb d12_spare_144 (by decide) ?_
            exact ih x2 x3 (x5 + (1 : Int32)) o138 _ _ _ hH (lv_sub hl [3, 4, 5, 6, 7, 0] rfl) e
          · have e := ce_if1 e hc100
            refine lv_aload_n hx9 hb d12_spare_103 rfl (lv_at hl 2 rfl) ?_
            refine lv_iload_n hx9 hb d12_spare_104 rfl (lv_at hl 3 rfl) ?_
            obtain ⟨o105, eo105, e⟩ := ce_bd e
            refine ce_callV (As := [.int x1]) (rest := []) C (ce_sok aK aV B0) hH (c12_gapOf l D ad cA aK aV B0 C.2.2.2.2.2.2.1 F x1  o97.2 o105 eo105) lo_68.1 lo_68.2.choose_spec rfl rfl mc12_gapOf ml_12_313 mi12_gapOf ms12_gapOf mI_12 (n := 1) (by decide) rfl ⟨Nat.le_of_ble_eq_true rfl, Nat.le_of_ble_eq_true rfl⟩ ⟨Nat.le_of_ble_eq_true rfl, Nat.le_of_ble_eq_true rfl⟩ hl.1 rfl (Nat.le_of_ble_eq_true rfl) d12_spare_105 (fun H locs hH => ?_)
            refine W.eq (g2 := F0 m 108 ls [.int o105.1]) rfl ?_
            refine lv_iload_n hx9 hb d12_spare_108 rfl (lv_at hl 5 rfl) ?_
            refine lv_icmp_ge (tgt := 131) hx9 hb d12_spare_109 (by decide) (fun hc109 => ?_) (fun hc109 => ?_)
            · have e := ce_if1 e hc109
              refine lv_aload_n hx9 hb d12_spare_131 rfl (lv_at hl 2 rfl) ?_
              refine lv_iload hx9 hb d12_spare_132 (lv_at hl 7 rfl) ?_
              refine lv_iload hx9 hb d12_spare_134 (lv_at hl 1 rfl) ?_
              refine lv_iload hx9 hb d12_spare_136 (lv_at hl 0 rfl) ?_
              obtain ⟨o138, eo138, e⟩ := ce_bd e
              refine ce_callV (As := [.int x5, .int o52.1, .int (o52.2 69 (((85 : Int32) + x5)).toNatClampNeg)]) (rest := []) C (ce_sok aK aV B0) hH (c12_lays l D ad cA aK aV B0 C.2.2.2.2.2.2.1 F x5 o52.1 (o52.2 69 (((85 : Int32) + x5)).toNatClampNeg)  o105.2 o138 eo138) lo_68.1 lo_68.2.choose_spec rfl rfl mc12_lays ml_12_204 mi12_lays ms12_lays mI_12 (n := 3) (by decide) rfl ⟨Nat.le_of_ble_eq_true rfl, Nat.le_of_ble_eq_true rfl⟩ ⟨Nat.le_of_ble_eq_true rfl, Nat.le_of_ble_eq_true rfl⟩ hl.1 rfl (Nat.le_of_ble_eq_true rfl) d12_spare_138 (fun H locs hH => ?_)
              refine W.eq (g2 := F0 m 141 ls []) rfl ?_
              refine lv_iinc (v := x5 + (1 : Int32)) (lv' := [(5, .int (x5 + (1 : Int32))), (7, .int (o52.2 69 (((85 : Int32) + x5)).toNatClampNeg)), (6, .int o52.1), (0, .ref (ad 68)), (1, .int x1), (2, .int x2), (3, .int x3), (4, .int x4)]) hx9 hb d12_spare_141 hl (k := 7) rfl rfl (by decide) rfl (fun ls hl => ?_)
              refine lv_goto (tgt := 42) hx9 hb d12_spare_144 (by decide) ?_
              exact ih x2 x3 (x5 + (1 : Int32)) o138 _ _ _ hH (lv_sub hl [3, 4, 5, 6, 7, 0] rfl) e
            · have e := ce_if0 e hc109
              refine lv_aload_n hx9 hb d12_spare_112 rfl (lv_at hl 2 rfl) ?_
              refine lv_iload_n hx9 hb d12_spare_113 rfl (lv_at hl 3 rfl) ?_
              obtain ⟨o114, eo114, e⟩ := ce_bd e
              refine ce_callV (As := [.int x1]) (rest := []) C (ce_sok aK aV B0) hH (c12_gapOf l D ad cA aK aV B0 C.2.2.2.2.2.2.1 F x1  o105.2 o114 eo114) lo_68.1 lo_68.2.choose_spec rfl rfl mc12_gapOf ml_12_313 mi12_gapOf ms12_gapOf mI_12 (n := 1) (by decide) rfl ⟨Nat.le_of_ble_eq_true rfl, Nat.le_of_ble_eq_true rfl⟩ ⟨Nat.le_of_ble_eq_true rfl, Nat.le_of_ble_eq_true rfl⟩ hl.1 rfl (Nat.le_of_ble_eq_true rfl) d12_spare_114 (fun H locs hH => ?_)
              refine W.eq (g2 := F0 m 117 ls [.int o114.1]) rfl ?_
              refine lv_istore_n (lv' := [(3, .int o114.1), (7, .int (o52.2 69 (((85 : Int32) + x5)).toNatClampNeg)), (6, .int o52.1), (0, .ref (ad 68)), (1, .int x1), (2, .int x2), (4, .int x4), (5, .int x5)]) hx9 hb d12_spare_117 rfl hl (by decide) rfl (fun ls hl => ?_)
              refine lv_bipush (v := (10 : Int32)) hx9 hb d12_spare_118 (by decide) ?_
              refine lv_iload hx9 hb d12_spare_120 (lv_at hl 7 rfl) ?_
              refine lv_iconst (v := (4 : Int32)) hx9 hb d12_spare_122 (by decide) ?_
              refine lv_idiv hx9 hb d12_spare_123 (by decide) ?_
              refine lv_imul hx9 hb d12_spare_124 ?_
              refine lv_iload hx9 hb d12_spare_125 (lv_at hl 7 rfl) ?_
              refine lv_iconst (v := (4 : Int32)) hx9 hb d12_spare_127 (by decide) ?_
              refine lv_irem hx9 hb d12_spare_128 (by decide) ?_
              refine lv_iadd hx9 hb d12_spare_129 ?_
              refine lv_istore_n (lv' := [(2, .int (((10 : Int32) * (x5 / (4 : Int32))) + (x5 - x5 / (4 : Int32) * (4 : Int32)))), (3, .int o114.1), (7, .int (o52.2 69 (((85 : Int32) + x5)).toNatClampNeg)), (6, .int o52.1), (0, .ref (ad 68)), (1, .int x1), (4, .int x4), (5, .int x5)]) hx9 hb d12_spare_130 rfl hl (by decide) rfl (fun ls hl => ?_)
              refine lv_aload_n hx9 hb d12_spare_131 rfl (lv_at hl 4 rfl) ?_
              refine lv_iload hx9 hb d12_spare_132 (lv_at hl 7 rfl) ?_
              refine lv_iload hx9 hb d12_spare_134 (lv_at hl 3 rfl) ?_
              refine lv_iload hx9 hb d12_spare_136 (lv_at hl 2 rfl) ?_
              obtain ⟨o138, eo138, e⟩ := ce_bd e
              refine ce_callV (As := [.int x5, .int o52.1, .int (o52.2 69 (((85 : Int32) + x5)).toNatClampNeg)]) (rest := []) C (ce_sok aK aV B0) hH (c12_lays l D ad cA aK aV B0 C.2.2.2.2.2.2.1 F x5 o52.1 (o52.2 69 (((85 : Int32) + x5)).toNatClampNeg)  o114.2 o138 eo138) lo_68.1 lo_68.2.choose_spec rfl rfl mc12_lays ml_12_204 mi12_lays ms12_lays mI_12 (n := 3) (by decide) rfl ⟨Nat.le_of_ble_eq_true rfl, Nat.le_of_ble_eq_true rfl⟩ ⟨Nat.le_of_ble_eq_true rfl, Nat.le_of_ble_eq_true rfl⟩ hl.1 rfl (Nat.le_of_ble_eq_true rfl) d12_spare_138 (fun H locs hH => ?_)
              refine W.eq (g2 := F0 m 141 ls []) rfl ?_
              refine lv_iinc (v := x5 + (1 : Int32)) (lv' := [(5, .int (x5 + (1 : Int32))), (2, .int (((10 : Int32) * (x5 / (4 : Int32))) + (x5 - x5 / (4 : Int32) * (4 : Int32)))), (3, .int o114.1), (7, .int (o52.2 69 (((85 : Int32) + x5)).toNatClampNeg)), (6, .int o52.1), (0, .ref (ad 68)), (1, .int x1), (4, .int x4)]) hx9 hb d12_spare_141 hl (k := 7) rfl rfl (by decide) rfl (fun ls hl => ?_)
              refine lv_goto (tgt := 42) hx9 hb d12_spare_144 (by decide) ?_
              exact ih (((10 : Int32) * (x5 / (4 : Int32))) + (x5 - x5 / (4 : Int32) * (4 : Int32))) o114.1 (x5 + (1 : Int32)) o138 _ _ _ hH (lv_sub hl [5, 6, 1, 2, 7, 0] rfl) e
      · have e := ce_if0 e hc61
        refine lv_goto (tgt := 141) hx9 hb d12_spare_64 (by decide) ?_
        refine lv_iinc (v := x5 + (1 : Int32)) (lv' := [(5, .int (x5 + (1 : Int32))), (6, .int o52.1), (0, .ref (ad 68)), (1, .int x1), (2, .int x2), (3, .int x3), (4, .int x4)]) hx9 hb d12_spare_141 hl (k := 6) rfl rfl (by decide) rfl (fun ls hl => ?_)
        refine lv_goto (tgt := 42) hx9 hb d12_spare_144 (by decide) ?_
        exact ih x2 x3 (x5 + (1 : Int32)) o52.2 _ _ _ hH (lv_sub hl [2, 3, 4, 5, 6, 0] rfl) e
def f12_spare (F : Nat) (x1 : Int32) (h : Hp) : Option (Int32 × Hp) :=
  Option.bind (f12_isNode F x1 h) (fun o2 =>
    if o2.1 = 0 then
      some ((-2 : Int32), o2.2)
    else
      Option.bind (f12_isLoop F x1 o2.2) (fun o15 =>
        if o15.1 = 0 then
          Option.bind (f12_gapOf F x1 o15.2) (fun o28 =>
            Option.bind (f12_sizeOf F x1 o28.2) (fun o34 =>
              Option.bind (ce_it (fun (st : Int32 × Int32 × Int32 × Hp) => f12_spare_b42 F x1 o34.1 st.1 st.2.1 st.2.2.1 st.2.2.2) F ((-1 : Int32), o28.1, (0 : Int32), o34.2)) (fun o42 =>
                some (o42.1, o42.2))))
        else
          Option.bind (f12_sizeOf F x1 o15.2) (fun o34 =>
            Option.bind (ce_it (fun (st : Int32 × Int32 × Int32 × Hp) => f12_spare_b42 F x1 o34.1 st.1 st.2.1 st.2.2.1 st.2.2.2) F ((-1 : Int32), (100000 : Int32), (0 : Int32), o34.2)) (fun o42 =>
              some (o42.1, o42.2)))))
set_option maxRecDepth 20000 in
theorem c12_spare (l : Launch) (D : va_G) (ad : Nat → Nat) (cA : Nat → ClassId) (aK aV : Nat → Nat) (B0 : Nat) (hA : ce_Ad ad B0) (F : Nat) (x1 : Int32)  (h : Hp) (r : Int32 × Hp) (e : f12_spare F x1 h = some r) : ce_Ct l D ad cA B0 (ce_St aK aV B0) y12_spare b12_spare 8 (some .int) 17 435 0 0 [.ref (ad 68), .int x1] h (some (.int r.1)) r.2 := by
  refine ce_enter hA (by decide) rfl (Nat.le_of_ble_eq_true rfl) (fun p e0 s m below meth c ls C hH hl => ?_)
  have hl : lv_has ls 8 [(0, .ref (ad 68)), (1, .int x1)] := hl
  have hx := C.1
  have hb := C.2.1
  have e : Option.bind _ some = some r := (congrArg (fun z => Option.bind z some) e).trans rfl
  unfold f12_spare at e
  refine lv_aload_n hx hb d12_spare_0 rfl (lv_at hl 0 rfl) ?_
  refine lv_iload_n hx hb d12_spare_1 rfl (lv_at hl 1 rfl) ?_
  obtain ⟨o2, eo2, e⟩ := ce_bd e
  refine ce_callV (As := [.int x1]) (rest := []) C (ce_sok aK aV B0) hH (c12_isNode l D ad cA aK aV B0 C.2.2.2.2.2.2.1 F x1  h o2 eo2) lo_68.1 lo_68.2.choose_spec rfl rfl mc12_isNode ml_12_220 mi12_isNode ms12_isNode mI_12 (n := 1) (by decide) rfl ⟨Nat.le_of_ble_eq_true rfl, Nat.le_of_ble_eq_true rfl⟩ ⟨Nat.le_of_ble_eq_true rfl, Nat.le_of_ble_eq_true rfl⟩ hl.1 rfl (Nat.le_of_ble_eq_true rfl) d12_spare_2 (fun H locs hH => ?_)
  refine W.eq (g2 := F0 m 5 ls [.int o2.1]) rfl ?_
  refine lv_if_ne (tgt := 11) hx hb d12_spare_5 (by decide) (fun hc5 => ?_) (fun hc5 => ?_)
  · have e := ce_if0 e hc5
    refine lv_iconst (v := (-1 : Int32)) hx hb d12_spare_11 (by decide) ?_
    refine lv_istore_n (lv' := [(2, .int (-1 : Int32)), (0, .ref (ad 68)), (1, .int x1)]) hx hb d12_spare_12 rfl hl (by decide) rfl (fun ls hl => ?_)
    refine lv_aload_n hx hb d12_spare_13 rfl (lv_at hl 1 rfl) ?_
    refine lv_iload_n hx hb d12_spare_14 rfl (lv_at hl 2 rfl) ?_
    obtain ⟨o15, eo15, e⟩ := ce_bd e
    refine ce_callV (As := [.int x1]) (rest := []) C (ce_sok aK aV B0) hH (c12_isLoop l D ad cA aK aV B0 C.2.2.2.2.2.2.1 F x1  o2.2 o15 eo15) lo_68.1 lo_68.2.choose_spec rfl rfl mc12_isLoop ml_12_233 mi12_isLoop ms12_isLoop mI_12 (n := 1) (by decide) rfl ⟨Nat.le_of_ble_eq_true rfl, Nat.le_of_ble_eq_true rfl⟩ ⟨Nat.le_of_ble_eq_true rfl, Nat.le_of_ble_eq_true rfl⟩ hl.1 rfl (Nat.le_of_ble_eq_true rfl) d12_spare_15 (fun H locs hH => ?_)
    refine W.eq (g2 := F0 m 18 ls [.int o15.1]) rfl ?_
    refine lv_if_eq (tgt := 26) hx hb d12_spare_18 (by decide) (fun hc18 => ?_) (fun hc18 => ?_)
    · have e := ce_if1 e hc18
      refine lv_aload_n hx hb d12_spare_26 rfl (lv_at hl 1 rfl) ?_
      refine lv_iload_n hx hb d12_spare_27 rfl (lv_at hl 2 rfl) ?_
      obtain ⟨o28, eo28, e⟩ := ce_bd e
      refine ce_callV (As := [.int x1]) (rest := []) C (ce_sok aK aV B0) hH (c12_gapOf l D ad cA aK aV B0 C.2.2.2.2.2.2.1 F x1  o15.2 o28 eo28) lo_68.1 lo_68.2.choose_spec rfl rfl mc12_gapOf ml_12_313 mi12_gapOf ms12_gapOf mI_12 (n := 1) (by decide) rfl ⟨Nat.le_of_ble_eq_true rfl, Nat.le_of_ble_eq_true rfl⟩ ⟨Nat.le_of_ble_eq_true rfl, Nat.le_of_ble_eq_true rfl⟩ hl.1 rfl (Nat.le_of_ble_eq_true rfl) d12_spare_28 (fun H locs hH => ?_)
      refine W.eq (g2 := F0 m 31 ls [.int o28.1]) rfl ?_
      refine lv_istore_n (lv' := [(3, .int o28.1), (2, .int (-1 : Int32)), (0, .ref (ad 68)), (1, .int x1)]) hx hb d12_spare_31 rfl hl (by decide) rfl (fun ls hl => ?_)
      refine lv_aload_n hx hb d12_spare_32 rfl (lv_at hl 2 rfl) ?_
      refine lv_iload_n hx hb d12_spare_33 rfl (lv_at hl 3 rfl) ?_
      obtain ⟨o34, eo34, e⟩ := ce_bd e
      refine ce_callV (As := [.int x1]) (rest := []) C (ce_sok aK aV B0) hH (c12_sizeOf l D ad cA aK aV B0 C.2.2.2.2.2.2.1 F x1  o28.2 o34 eo34) lo_68.1 lo_68.2.choose_spec rfl rfl mc12_sizeOf ml_12_230 mi12_sizeOf ms12_sizeOf mI_12 (n := 1) (by decide) rfl ⟨Nat.le_of_ble_eq_true rfl, Nat.le_of_ble_eq_true rfl⟩ ⟨Nat.le_of_ble_eq_true rfl, Nat.le_of_ble_eq_true rfl⟩ hl.1 rfl (Nat.le_of_ble_eq_true rfl) d12_spare_34 (fun H locs hH => ?_)
      refine W.eq (g2 := F0 m 37 ls [.int o34.1]) rfl ?_
      refine lv_istore (lv' := [(4, .int o34.1), (3, .int o28.1), (2, .int (-1 : Int32)), (0, .ref (ad 68)), (1, .int x1)]) hx hb d12_spare_37 hl (by decide) rfl (fun ls hl => ?_)
      refine lv_iconst (v := (0 : Int32)) hx hb d12_spare_39 (by decide) ?_
      refine lv_istore (lv' := [(5, .int (0 : Int32)), (4, .int o34.1), (3, .int o28.1), (2, .int (-1 : Int32)), (0, .ref (ad 68)), (1, .int x1)]) hx hb d12_spare_40 hl (by decide) rfl (fun ls hl => ?_)
      refine l12_spare_42 C F x1 o34.1  r _ (fun y42_2 h_42 H locs ls hH hl e => ?_) F (-1 : Int32) o28.1 (0 : Int32) o34.2 _ _ _ hH (lv_sub hl [4, 5, 3, 2, 1, 0] rfl) (ce_as e)
      try dsimp only at e
      refine lv_iload_n hx hb d12_spare_147 rfl (lv_at hl 0 rfl) ?_
      exact ce_iretE C (ce_sok aK aV B0) hH e d12_spare_148
    · have e := ce_if0 e hc18
      refine lv_ldc (v := (100000 : Int32)) hx hb C.2.2.2.1 (C.2.2.2.2.1 _ mk_12_245) d12_spare_21 ?_
      refine lv_goto (tgt := 31) hx hb d12_spare_23 (by decide) ?_
      refine lv_istore_n (lv' := [(3, .int (100000 : Int32)), (2, .int (-1 : Int32)), (0, .ref (ad 68)), (1, .int x1)]) hx hb d12_spare_31 rfl hl (by decide) rfl (fun ls hl => ?_)
      refine lv_aload_n hx hb d12_spare_32 rfl (lv_at hl 2 rfl) ?_
      refine lv_iload_n hx hb d12_spare_33 rfl (lv_at hl 3 rfl) ?_
      obtain ⟨o34, eo34, e⟩ := ce_bd e
      refine ce_callV (As := [.int x1]) (rest := []) C (ce_sok aK aV B0) hH (c12_sizeOf l D ad cA aK aV B0 C.2.2.2.2.2.2.1 F x1  o15.2 o34 eo34) lo_68.1 lo_68.2.choose_spec rfl rfl mc12_sizeOf ml_12_230 mi12_sizeOf ms12_sizeOf mI_12 (n := 1) (by decide) rfl ⟨Nat.le_of_ble_eq_true rfl, Nat.le_of_ble_eq_true rfl⟩ ⟨Nat.le_of_ble_eq_true rfl, Nat.le_of_ble_eq_true rfl⟩ hl.1 rfl (Nat.le_of_ble_eq_true rfl) d12_spare_34 (fun H locs hH => ?_)
      refine W.eq (g2 := F0 m 37 ls [.int o34.1]) rfl ?_
      refine lv_istore (lv' := [(4, .int o34.1), (3, .int (100000 : Int32)), (2, .int (-1 : Int32)), (0, .ref (ad 68)), (1, .int x1)]) hx hb d12_spare_37 hl (by decide) rfl (fun ls hl => ?_)
      refine lv_iconst (v := (0 : Int32)) hx hb d12_spare_39 (by decide) ?_
      refine lv_istore (lv' := [(5, .int (0 : Int32)), (4, .int o34.1), (3, .int (100000 : Int32)), (2, .int (-1 : Int32)), (0, .ref (ad 68)), (1, .int x1)]) hx hb d12_spare_40 hl (by decide) rfl (fun ls hl => ?_)
      refine l12_spare_42 C F x1 o34.1  r _ (fun y42_2 h_42 H locs ls hH hl e => ?_) F (-1 : Int32) (100000 : Int32) (0 : Int32) o34.2 _ _ _ hH (lv_sub hl [4, 5, 3, 2, 1, 0] rfl) (ce_as e)
      try dsimp only at e
      refine lv_iload_n hx hb d12_spare_147 rfl (lv_at hl 0 rfl) ?_
      exact ce_iretE C (ce_sok aK aV B0) hH e d12_spare_148
  · have e := ce_if1 e hc5
    refine lv_bipush (v := (-2 : Int32)) hx hb d12_spare_8 (by decide) ?_
    exact ce_iretE C (ce_sok aK aV B0) hH e d12_spare_10
abbrev b12_keeps : ByteArray := prog_14_method_95_code
def y12_keeps : MethodName := ⟨cn_12, "keeps", "()V"⟩
theorem d12_keeps_0 : decode b12_keeps 0 = .ok (.iconst 0, 1) := by decide +kernel
theorem d12_keeps_1 : decode b12_keeps 1 = .ok (.istore_n 1, 1) := by decide +kernel
theorem d12_keeps_2 : decode b12_keeps 2 = .ok (.iload_n 1, 1) := by decide +kernel
theorem d12_keeps_3 : decode b12_keeps 3 = .ok (.bipush 125, 2) := by decide +kernel
theorem d12_keeps_5 : decode b12_keeps 5 = .ok (.if_icmp .ge 31, 3) := by decide +kernel
theorem d12_keeps_8 : decode b12_keeps 8 = .ok (.aload_n 0, 1) := by decide +kernel
theorem d12_keeps_9 : decode b12_keeps 9 = .ok (.getfield 16, 3) := by decide +kernel
theorem d12_keeps_12 : decode b12_keeps 12 = .ok (.bipush 125, 2) := by decide +kernel
theorem d12_keeps_14 : decode b12_keeps 14 = .ok (.aload_n 0, 1) := by decide +kernel
theorem d12_keeps_15 : decode b12_keeps 15 = .ok (.getfield 7, 3) := by decide +kernel
theorem d12_keeps_18 : decode b12_keeps 18 = .ok (.iconst 4, 1) := by decide +kernel
theorem d12_keeps_19 : decode b12_keeps 19 = .ok (.iaload, 1) := by decide +kernel
theorem d12_keeps_20 : decode b12_keeps 20 = .ok (.imul, 1) := by decide +kernel
theorem d12_keeps_21 : decode b12_keeps 21 = .ok (.iload_n 1, 1) := by decide +kernel
theorem d12_keeps_22 : decode b12_keeps 22 = .ok (.iadd, 1) := by decide +kernel
theorem d12_keeps_23 : decode b12_keeps 23 = .ok (.aload_n 0, 1) := by decide +kernel
theorem d12_keeps_24 : decode b12_keeps 24 = .ok (.getfield 7, 3) := by decide +kernel
theorem d12_keeps_27 : decode b12_keeps 27 = .ok (.iload_n 1, 1) := by decide +kernel
theorem d12_keeps_28 : decode b12_keeps 28 = .ok (.iaload, 1) := by decide +kernel
theorem d12_keeps_29 : decode b12_keeps 29 = .ok (.iastore, 1) := by decide +kernel
theorem d12_keeps_30 : decode b12_keeps 30 = .ok (.iinc 1 1, 3) := by decide +kernel
theorem d12_keeps_33 : decode b12_keeps 33 = .ok (.goto (-31), 3) := by decide +kernel
theorem d12_keeps_36 : decode b12_keeps 36 = .ok (.aload_n 0, 1) := by decide +kernel
theorem d12_keeps_37 : decode b12_keeps 37 = .ok (.getfield 7, 3) := by decide +kernel
theorem d12_keeps_40 : decode b12_keeps 40 = .ok (.iconst 4, 1) := by decide +kernel
theorem d12_keeps_41 : decode b12_keeps 41 = .ok (.dup2, 1) := by decide +kernel
theorem d12_keeps_42 : decode b12_keeps 42 = .ok (.iaload, 1) := by decide +kernel
theorem d12_keeps_43 : decode b12_keeps 43 = .ok (.iconst 1, 1) := by decide +kernel
theorem d12_keeps_44 : decode b12_keeps 44 = .ok (.iadd, 1) := by decide +kernel
theorem d12_keeps_45 : decode b12_keeps 45 = .ok (.iastore, 1) := by decide +kernel
theorem d12_keeps_46 : decode b12_keeps 46 = .ok (.return_, 1) := by decide +kernel
theorem fl_12_16 : Cond.fieldLink cn_12 16 (ft_12 2).1 (ft_12 2).2.1 (ft_12 2).2.2.1 ∈ ce_cm := ce_cm_of (List.mem_of_getElem? (i := 1123) (by decide +kernel)) (by decide +kernel)
theorem gf_12_16 (C : ce_Cx p s m args c meth cc nL ret cn_12 D ad cA B0 (ce_St aK aV B0)) (hH : ce_H D ad cA B0 X s h H locs) (hdg : decode cc pc = .ok (.getfield 16, 3)) (kk : W p l e0 R s m args below meth c H locs cells slots Q (F0 m (pc + 3) ls (.ref (ad 71) :: rest))) : W p l e0 R s m args below meth c H locs cells slots Q (F0 m pc ls (.ref (ad 68) :: rest)) := by
  exact ce_get C hH (k := 68) (ci := 12) (j := 2) (N := 43) (sj := some (some 71)) (by decide) rfl rfl fw_12 (by decide) fl_12_16 rfl hdg kk
theorem lc_71 : 71 < 96 ∧ ce_lay 71 = .inl (0, 2500) := ⟨by decide, rfl⟩
def f12_keeps_b2 (F : Nat) (x1 : Int32) (h : Hp) : Option ((Int32 × Hp) ⊕ (Hp)) :=
  if (125 : Int32) ≤ x1 then
    some (.inr h)
  else
    if ce_in x1 125 = true then
      if ce_in (((125 : Int32) * (h 69 ((4 : Int32)).toNatClampNeg)) + x1) 2500 = true then
        ce_nm (hp_up h 71 ((((125 : Int32) * (h 69 ((4 : Int32)).toNatClampNeg)) + x1)).toNatClampNeg (h 69 (x1).toNatClampNeg)) (fun h_29 =>
          some (.inl (x1 + (1 : Int32), h_29)))
      else none
    else none
set_option maxRecDepth 20000 in
theorem l12_keeps_2 (C : ce_Cx p s m args c meth b12_keeps 2 none cn_12 D ad cA B0 (ce_St aK aV B0)) (F : Nat)   (r : Hp) (g : (Hp) → Option (Hp)) (hx : ∀  (h : Hp) (H : Heap) (locs : List Loc) (ls : Array Slot), ce_H D ad cA B0 [] s h H locs → lv_has ls 2 [(0, .ref (ad 68))] → g h = some r → W p l e0 { frames := 0, cells := 0, slots := 0, locals := 0 } s m args below meth c H locs 0 0 (MQ below (ce_Q D ad cA B0 (ce_St aK aV B0) none r) args s 0 0 (fun q => B0 ≤ q)) (F0 m 36 ls [])) : ∀ (n : Nat) (x1 : Int32) (h : Hp) (H : Heap) (locs : List Loc) (ls : Array Slot), ce_H D ad cA B0 [] s h H locs → lv_has ls 2 [(0, .ref (ad 68)), (1, .int x1)] → Option.bind (ce_it (fun (st : Int32 × Hp) => f12_keeps_b2 F  st.1 st.2) n (x1, h)) g = some r → W p l e0 { frames := 0, cells := 0, slots := 0, locals := 0 } s m args below meth c H locs 0 0 (MQ below (ce_Q D ad cA B0 (ce_St aK aV B0) none r) args s 0 0 (fun q => B0 ≤ q)) (F0 m 2 ls []) := by
  intro n
  induction n with
  | zero =>
    intro x1 h H locs ls hH hl e
    exact absurd e (fun z => by cases z)
  | succ n ih =>
    intro x1 h H locs ls hH hl e
    have hx9 := C.1
    have hb := C.2.1
    have e : Option.bind (f12_keeps_b2 F  x1 h) _ = some r := ce_it_bd e
    unfold f12_keeps_b2 at e
    refine lv_iload_n hx9 hb d12_keeps_2 rfl (lv_at hl 1 rfl) ?_
    refine lv_bipush (v := (125 : Int32)) hx9 hb d12_keeps_3 (by decide) ?_
    refine lv_icmp_ge (tgt := 36) hx9 hb d12_keeps_5 (by decide) (fun hc5 => ?_) (fun hc5 => ?_)
    · have e := ce_if1 e hc5
      exact hx  h _ _ _ hH (lv_sub hl [0] rfl) e
    · have e := ce_if0 e hc5
      refine lv_aload_n hx9 hb d12_keeps_8 rfl (lv_at hl 0 rfl) ?_
      refine gf_12_16 C hH d12_keeps_9 ?_
      refine lv_bipush (v := (125 : Int32)) hx9 hb d12_keeps_12 (by decide) ?_
      refine lv_aload_n hx9 hb d12_keeps_14 rfl (lv_at hl 0 rfl) ?_
      refine gf_12_7 C hH d12_keeps_15 ?_
      refine lv_iconst (v := (4 : Int32)) hx9 hb d12_keeps_18 (by decide) ?_
      refine ce_iald C hH lc_69.1 lc_69.2 (ce_in_vp (by decide)) d12_keeps_19 ?_
      refine lv_imul hx9 hb d12_keeps_20 ?_
      refine lv_iload_n hx9 hb d12_keeps_21 rfl (lv_at hl 1 rfl) ?_
      refine lv_iadd hx9 hb d12_keeps_22 ?_
      refine lv_aload_n hx9 hb d12_keeps_23 rfl (lv_at hl 0 rfl) ?_
      refine gf_12_7 C hH d12_keeps_24 ?_
      refine lv_iload_n hx9 hb d12_keeps_27 rfl (lv_at hl 1 rfl) ?_
      obtain ⟨hi28, e⟩ := ce_gd e
      refine ce_iald C hH lc_69.1 lc_69.2 (ce_in_vp hi28) d12_keeps_28 ?_
      obtain ⟨hi29, e⟩ := ce_gd e
      refine ce_iast C hH lc_71.1 lc_71.2 (ce_in_vp hi29) d12_keeps_29 (fun H locs hH => ?_)
      obtain ⟨h_29, eh_29, e⟩ := ce_nmE e
      rw [← eh_29] at hH
      refine lv_iinc (v := x1 + (1 : Int32)) (lv' := [(1, .int (x1 + (1 : Int32))), (0, .ref (ad 68))]) hx9 hb d12_keeps_30 hl (k := 1) rfl rfl (by decide) rfl (fun ls hl => ?_)
      refine lv_goto (tgt := 2) hx9 hb d12_keeps_33 (by decide) ?_
      exact ih (x1 + (1 : Int32)) h_29 _ _ _ hH (lv_sub hl [1, 0] rfl) e
def f12_keeps (F : Nat)  (h : Hp) : Option (Hp) :=
  Option.bind (ce_it (fun (st : Int32 × Hp) => f12_keeps_b2 F  st.1 st.2) F ((0 : Int32), h)) (fun o2 =>
    ce_nm (hp_up o2 69 ((4 : Int32)).toNatClampNeg ((o2 69 ((4 : Int32)).toNatClampNeg) + (1 : Int32))) (fun h_45 =>
      some h_45))
set_option maxRecDepth 20000 in
theorem c12_keeps (l : Launch) (D : va_G) (ad : Nat → Nat) (cA : Nat → ClassId) (aK aV : Nat → Nat) (B0 : Nat) (hA : ce_Ad ad B0) (F : Nat)   (h : Hp) (r : Hp) (e : f12_keeps F  h = some r) : ce_Ct l D ad cA B0 (ce_St aK aV B0) y12_keeps b12_keeps 2 none 0 0 0 0 [.ref (ad 68)] h none r := by
  refine ce_enter hA (by decide) rfl (Nat.le_of_ble_eq_true rfl) (fun p e0 s m below meth c ls C hH hl => ?_)
  have hl : lv_has ls 2 [(0, .ref (ad 68))] := hl
  have hx := C.1
  have hb := C.2.1
  have e : Option.bind _ some = some r := (congrArg (fun z => Option.bind z some) e).trans rfl
  unfold f12_keeps at e
  refine lv_iconst (v := (0 : Int32)) hx hb d12_keeps_0 (by decide) ?_
  refine lv_istore_n (lv' := [(1, .int (0 : Int32)), (0, .ref (ad 68))]) hx hb d12_keeps_1 rfl hl (by decide) rfl (fun ls hl => ?_)
  refine l12_keeps_2 C F   r _ (fun  h_2 H locs ls hH hl e => ?_) F (0 : Int32) h _ _ _ hH (lv_sub hl [1, 0] rfl) (ce_as e)
  try dsimp only at e
  refine lv_aload_n hx hb d12_keeps_36 rfl (lv_at hl 0 rfl) ?_
  refine gf_12_7 C hH d12_keeps_37 ?_
  refine lv_iconst (v := (4 : Int32)) hx hb d12_keeps_40 (by decide) ?_
  refine lv_dup2_11 hx hb d12_keeps_41 rfl rfl ?_
  refine ce_iald C hH lc_69.1 lc_69.2 (ce_in_vp (by decide)) d12_keeps_42 ?_
  refine lv_iconst (v := (1 : Int32)) hx hb d12_keeps_43 (by decide) ?_
  refine lv_iadd hx hb d12_keeps_44 ?_
  refine ce_iast C hH lc_69.1 lc_69.2 (ce_in_vp (by decide)) d12_keeps_45 (fun H locs hH => ?_)
  obtain ⟨h_45, eh_45, e⟩ := ce_nmE e
  rw [← eh_45] at hH
  exact ce_vret C (ce_sok aK aV B0) hH (Option.some.inj e) d12_keeps_46
abbrev b12_goesBack : ByteArray := prog_14_method_96_code
def y12_goesBack : MethodName := ⟨cn_12, "goesBack", "(I)V"⟩
theorem d12_goesBack_0 : decode b12_goesBack 0 = .ok (.iconst 0, 1) := by decide +kernel
theorem d12_goesBack_1 : decode b12_goesBack 1 = .ok (.istore_n 2, 1) := by decide +kernel
theorem d12_goesBack_2 : decode b12_goesBack 2 = .ok (.iload_n 2, 1) := by decide +kernel
theorem d12_goesBack_3 : decode b12_goesBack 3 = .ok (.bipush 125, 2) := by decide +kernel
theorem d12_goesBack_5 : decode b12_goesBack 5 = .ok (.if_icmp .ge 26, 3) := by decide +kernel
theorem d12_goesBack_8 : decode b12_goesBack 8 = .ok (.aload_n 0, 1) := by decide +kernel
theorem d12_goesBack_9 : decode b12_goesBack 9 = .ok (.getfield 7, 3) := by decide +kernel
theorem d12_goesBack_12 : decode b12_goesBack 12 = .ok (.iload_n 2, 1) := by decide +kernel
theorem d12_goesBack_13 : decode b12_goesBack 13 = .ok (.aload_n 0, 1) := by decide +kernel
theorem d12_goesBack_14 : decode b12_goesBack 14 = .ok (.getfield 16, 3) := by decide +kernel
theorem d12_goesBack_17 : decode b12_goesBack 17 = .ok (.bipush 125, 2) := by decide +kernel
theorem d12_goesBack_19 : decode b12_goesBack 19 = .ok (.iload_n 1, 1) := by decide +kernel
theorem d12_goesBack_20 : decode b12_goesBack 20 = .ok (.imul, 1) := by decide +kernel
theorem d12_goesBack_21 : decode b12_goesBack 21 = .ok (.iload_n 2, 1) := by decide +kernel
theorem d12_goesBack_22 : decode b12_goesBack 22 = .ok (.iadd, 1) := by decide +kernel
theorem d12_goesBack_23 : decode b12_goesBack 23 = .ok (.iaload, 1) := by decide +kernel
theorem d12_goesBack_24 : decode b12_goesBack 24 = .ok (.iastore, 1) := by decide +kernel
theorem d12_goesBack_25 : decode b12_goesBack 25 = .ok (.iinc 2 1, 3) := by decide +kernel
theorem d12_goesBack_28 : decode b12_goesBack 28 = .ok (.goto (-26), 3) := by decide +kernel
theorem d12_goesBack_31 : decode b12_goesBack 31 = .ok (.return_, 1) := by decide +kernel
def f12_goesBack_b2 (F : Nat) (x1 : Int32) (x2 : Int32) (h : Hp) : Option ((Int32 × Hp) ⊕ (Hp)) :=
  if (125 : Int32) ≤ x2 then
    some (.inr h)
  else
    if ce_in (((125 : Int32) * x1) + x2) 2500 = true then
      if ce_in x2 125 = true then
        ce_nm (hp_up h 69 (x2).toNatClampNeg (h 71 ((((125 : Int32) * x1) + x2)).toNatClampNeg)) (fun h_24 =>
          some (.inl (x2 + (1 : Int32), h_24)))
      else none
    else none
set_option maxRecDepth 20000 in
theorem l12_goesBack_2 (C : ce_Cx p s m args c meth b12_goesBack 3 none cn_12 D ad cA B0 (ce_St aK aV B0)) (F : Nat) (x1 : Int32)  (r : Hp) (g : (Hp) → Option (Hp)) (hx : ∀  (h : Hp) (H : Heap) (locs : List Loc) (ls : Array Slot), ce_H D ad cA B0 [] s h H locs → lv_has ls 3 [] → g h = some r → W p l e0 { frames := 0, cells := 0, slots := 0, locals := 0 } s m args below meth c H locs 0 0 (MQ below (ce_Q D ad cA B0 (ce_St aK aV B0) none r) args s 0 0 (fun q => B0 ≤ q)) (F0 m 31 ls [])) : ∀ (n : Nat) (x2 : Int32) (h : Hp) (H : Heap) (locs : List Loc) (ls : Array Slot), ce_H D ad cA B0 [] s h H locs → lv_has ls 3 [(0, .ref (ad 68)), (1, .int x1), (2, .int x2)] → Option.bind (ce_it (fun (st : Int32 × Hp) => f12_goesBack_b2 F x1 st.1 st.2) n (x2, h)) g = some r → W p l e0 { frames := 0, cells := 0, slots := 0, locals := 0 } s m args below meth c H locs 0 0 (MQ below (ce_Q D ad cA B0 (ce_St aK aV B0) none r) args s 0 0 (fun q => B0 ≤ q)) (F0 m 2 ls []) := by
  intro n
  induction n with
  | zero =>
    intro x2 h H locs ls hH hl e
    exact absurd e (fun z => by cases z)
  | succ n ih =>
    intro x2 h H locs ls hH hl e
    have hx9 := C.1
    have hb := C.2.1
    have e : Option.bind (f12_goesBack_b2 F x1 x2 h) _ = some r := ce_it_bd e
    unfold f12_goesBack_b2 at e
    refine lv_iload_n hx9 hb d12_goesBack_2 rfl (lv_at hl 2 rfl) ?_
    refine lv_bipush (v := (125 : Int32)) hx9 hb d12_goesBack_3 (by decide) ?_
    refine lv_icmp_ge (tgt := 31) hx9 hb d12_goesBack_5 (by decide) (fun hc5 => ?_) (fun hc5 => ?_)
    · have e := ce_if1 e hc5
      exact hx  h _ _ _ hH (lv_sub hl [] rfl) e
    · have e := ce_if0 e hc5
      refine lv_aload_n hx9 hb d12_goesBack_8 rfl (lv_at hl 0 rfl) ?_
      refine gf_12_7 C hH d12_goesBack_9 ?_
      refine lv_iload_n hx9 hb d12_goesBack_12 rfl (lv_at hl 2 rfl) ?_
      refine lv_aload_n hx9 hb d12_goesBack_13 rfl (lv_at hl 0 rfl) ?_
      refine gf_12_16 C hH d12_goesBack_14 ?_
      refine lv_bipush (v := (125 : Int32)) hx9 hb d12_goesBack_17 (by decide) ?_
      refine lv_iload_n hx9 hb d12_goesBack_19 rfl (lv_at hl 1 rfl) ?_
      refine lv_imul hx9 hb d12_goesBack_20 ?_
      refine lv_iload_n hx9 hb d12_goesBack_21 rfl (lv_at hl 2 rfl) ?_
      refine lv_iadd hx9 hb d12_goesBack_22 ?_
      obtain ⟨hi23, e⟩ := ce_gd e
      refine ce_iald C hH lc_71.1 lc_71.2 (ce_in_vp hi23) d12_goesBack_23 ?_
      obtain ⟨hi24, e⟩ := ce_gd e
      refine ce_iast C hH lc_69.1 lc_69.2 (ce_in_vp hi24) d12_goesBack_24 (fun H locs hH => ?_)
      obtain ⟨h_24, eh_24, e⟩ := ce_nmE e
      rw [← eh_24] at hH
      refine lv_iinc (v := x2 + (1 : Int32)) (lv' := [(2, .int (x2 + (1 : Int32))), (0, .ref (ad 68)), (1, .int x1)]) hx9 hb d12_goesBack_25 hl (k := 2) rfl rfl (by decide) rfl (fun ls hl => ?_)
      refine lv_goto (tgt := 2) hx9 hb d12_goesBack_28 (by decide) ?_
      exact ih (x2 + (1 : Int32)) h_24 _ _ _ hH (lv_sub hl [1, 2, 0] rfl) e
def f12_goesBack (F : Nat) (x1 : Int32) (h : Hp) : Option (Hp) :=
  Option.bind (ce_it (fun (st : Int32 × Hp) => f12_goesBack_b2 F x1 st.1 st.2) F ((0 : Int32), h)) (fun o2 =>
    some o2)
set_option maxRecDepth 20000 in
theorem c12_goesBack (l : Launch) (D : va_G) (ad : Nat → Nat) (cA : Nat → ClassId) (aK aV : Nat → Nat) (B0 : Nat) (hA : ce_Ad ad B0) (F : Nat) (x1 : Int32)  (h : Hp) (r : Hp) (e : f12_goesBack F x1 h = some r) : ce_Ct l D ad cA B0 (ce_St aK aV B0) y12_goesBack b12_goesBack 3 none 0 0 0 0 [.ref (ad 68), .int x1] h none r := by
  refine ce_enter hA (by decide) rfl (Nat.le_of_ble_eq_true rfl) (fun p e0 s m below meth c ls C hH hl => ?_)
  have hl : lv_has ls 3 [(0, .ref (ad 68)), (1, .int x1)] := hl
  have hx := C.1
  have hb := C.2.1
  have e : Option.bind _ some = some r := (congrArg (fun z => Option.bind z some) e).trans rfl
  unfold f12_goesBack at e
  refine lv_iconst (v := (0 : Int32)) hx hb d12_goesBack_0 (by decide) ?_
  refine lv_istore_n (lv' := [(2, .int (0 : Int32)), (0, .ref (ad 68)), (1, .int x1)]) hx hb d12_goesBack_1 rfl hl (by decide) rfl (fun ls hl => ?_)
  refine l12_goesBack_2 C F x1  r _ (fun  h_2 H locs ls hH hl e => ?_) F (0 : Int32) h _ _ _ hH (lv_sub hl [1, 2, 0] rfl) (ce_as e)
  try dsimp only at e
  exact ce_vret C (ce_sok aK aV B0) hH (Option.some.inj e) d12_goesBack_31
abbrev b12_plug : ByteArray := prog_14_method_97_code
def y12_plug : MethodName := ⟨cn_12, "plug", "(IIIII)I"⟩
theorem d12_plug_0 : decode b12_plug 0 = .ok (.aload_n 0, 1) := by decide +kernel
theorem d12_plug_1 : decode b12_plug 1 = .ok (.iload_n 1, 1) := by decide +kernel
theorem d12_plug_2 : decode b12_plug 2 = .ok (.iload_n 2, 1) := by decide +kernel
theorem d12_plug_3 : decode b12_plug 3 = .ok (.invokevirtual 259, 3) := by decide +kernel
theorem d12_plug_6 : decode b12_plug 6 = .ok (.ifCond .eq 31, 3) := by decide +kernel
theorem d12_plug_9 : decode b12_plug 9 = .ok (.aload_n 0, 1) := by decide +kernel
theorem d12_plug_10 : decode b12_plug 10 = .ok (.iload_n 3, 1) := by decide +kernel
theorem d12_plug_11 : decode b12_plug 11 = .ok (.iload 4, 2) := by decide +kernel
theorem d12_plug_13 : decode b12_plug 13 = .ok (.invokevirtual 259, 3) := by decide +kernel
theorem d12_plug_16 : decode b12_plug 16 = .ok (.ifCond .eq 21, 3) := by decide +kernel
theorem d12_plug_19 : decode b12_plug 19 = .ok (.iload_n 1, 1) := by decide +kernel
theorem d12_plug_20 : decode b12_plug 20 = .ok (.iload_n 3, 1) := by decide +kernel
theorem d12_plug_21 : decode b12_plug 21 = .ok (.if_icmp .eq 16, 3) := by decide +kernel
theorem d12_plug_24 : decode b12_plug 24 = .ok (.iload 5, 2) := by decide +kernel
theorem d12_plug_26 : decode b12_plug 26 = .ok (.i2l, 1) := by decide +kernel
theorem d12_plug_27 : decode b12_plug 27 = .ok (.lconst 1, 1) := by decide +kernel
theorem d12_plug_28 : decode b12_plug 28 = .ok (.ldc2_w 376, 3) := by decide +kernel
theorem d12_plug_31 : decode b12_plug 31 = .ok (.invokestatic 98, 3) := by decide +kernel
theorem d12_plug_34 : decode b12_plug 34 = .ok (.ifCond .ne 6, 3) := by decide +kernel
theorem d12_plug_37 : decode b12_plug 37 = .ok (.bipush (-2), 2) := by decide +kernel
theorem d12_plug_39 : decode b12_plug 39 = .ok (.ireturn, 1) := by decide +kernel
theorem d12_plug_40 : decode b12_plug 40 = .ok (.iconst 4, 1) := by decide +kernel
theorem d12_plug_41 : decode b12_plug 41 = .ok (.iload_n 1, 1) := by decide +kernel
theorem d12_plug_42 : decode b12_plug 42 = .ok (.imul, 1) := by decide +kernel
theorem d12_plug_43 : decode b12_plug 43 = .ok (.iload_n 2, 1) := by decide +kernel
theorem d12_plug_44 : decode b12_plug 44 = .ok (.iadd, 1) := by decide +kernel
theorem d12_plug_45 : decode b12_plug 45 = .ok (.istore 6, 2) := by decide +kernel
theorem d12_plug_47 : decode b12_plug 47 = .ok (.iconst 4, 1) := by decide +kernel
theorem d12_plug_48 : decode b12_plug 48 = .ok (.iload_n 3, 1) := by decide +kernel
theorem d12_plug_49 : decode b12_plug 49 = .ok (.imul, 1) := by decide +kernel
theorem d12_plug_50 : decode b12_plug 50 = .ok (.iload 4, 2) := by decide +kernel
theorem d12_plug_52 : decode b12_plug 52 = .ok (.iadd, 1) := by decide +kernel
theorem d12_plug_53 : decode b12_plug 53 = .ok (.istore 7, 2) := by decide +kernel
theorem d12_plug_55 : decode b12_plug 55 = .ok (.aload_n 0, 1) := by decide +kernel
theorem d12_plug_56 : decode b12_plug 56 = .ok (.iload 6, 2) := by decide +kernel
theorem d12_plug_58 : decode b12_plug 58 = .ok (.invokevirtual 224, 3) := by decide +kernel
theorem d12_plug_61 : decode b12_plug 61 = .ok (.ifCond .ge 23, 3) := by decide +kernel
theorem d12_plug_64 : decode b12_plug 64 = .ok (.aload_n 0, 1) := by decide +kernel
theorem d12_plug_65 : decode b12_plug 65 = .ok (.iload 7, 2) := by decide +kernel
theorem d12_plug_67 : decode b12_plug 67 = .ok (.invokevirtual 224, 3) := by decide +kernel
theorem d12_plug_70 : decode b12_plug 70 = .ok (.ifCond .ge 14, 3) := by decide +kernel
theorem d12_plug_73 : decode b12_plug 73 = .ok (.aload_n 0, 1) := by decide +kernel
theorem d12_plug_74 : decode b12_plug 74 = .ok (.getfield 7, 3) := by decide +kernel
theorem d12_plug_77 : decode b12_plug 77 = .ok (.iconst 4, 1) := by decide +kernel
theorem d12_plug_78 : decode b12_plug 78 = .ok (.iaload, 1) := by decide +kernel
theorem d12_plug_79 : decode b12_plug 79 = .ok (.bipush 20, 2) := by decide +kernel
theorem d12_plug_81 : decode b12_plug 81 = .ok (.if_icmp .ne 6, 3) := by decide +kernel
theorem d12_plug_84 : decode b12_plug 84 = .ok (.bipush (-5), 2) := by decide +kernel
theorem d12_plug_86 : decode b12_plug 86 = .ok (.ireturn, 1) := by decide +kernel
theorem d12_plug_87 : decode b12_plug 87 = .ok (.aload_n 0, 1) := by decide +kernel
theorem d12_plug_88 : decode b12_plug 88 = .ok (.invokevirtual 378, 3) := by decide +kernel
theorem d12_plug_91 : decode b12_plug 91 = .ok (.aload_n 0, 1) := by decide +kernel
theorem d12_plug_92 : decode b12_plug 92 = .ok (.iload 6, 2) := by decide +kernel
theorem d12_plug_94 : decode b12_plug 94 = .ok (.iload 7, 2) := by decide +kernel
theorem d12_plug_96 : decode b12_plug 96 = .ok (.iload 5, 2) := by decide +kernel
theorem d12_plug_98 : decode b12_plug 98 = .ok (.invokevirtual 204, 3) := by decide +kernel
theorem d12_plug_101 : decode b12_plug 101 = .ok (.aload_n 0, 1) := by decide +kernel
theorem d12_plug_102 : decode b12_plug 102 = .ok (.invokevirtual 239, 3) := by decide +kernel
theorem d12_plug_105 : decode b12_plug 105 = .ok (.ireturn, 1) := by decide +kernel
theorem mk_12_376 : Cond.constantLong cn_12 376 (9) ∈ ce_cm := ce_cm_of (List.mem_of_getElem? (i := 1643) (by decide +kernel)) (by decide +kernel)
theorem mc12_keeps : Cond.code y12_keeps b12_keeps 2 none ∈ ce_cm := ce_cm_of (List.mem_of_getElem? (i := 1647) (by decide +kernel)) (by decide +kernel)
theorem ml_12_378 : Cond.methodLink cn_12 378 y12_keeps ∈ ce_cm := ce_cm_of (List.mem_of_getElem? (i := 1644) (by decide +kernel)) (by decide +kernel)
theorem mi12_keeps : Cond.instanceMethod y12_keeps ∈ ce_cm := ce_cm_of (List.mem_of_getElem? (i := 1646) (by decide +kernel)) (by decide +kernel)
theorem ms12_keeps : Cond.selects cn_12 y12_keeps y12_keeps ∈ ce_cm := ce_cm_of (List.mem_of_getElem? (i := 87) (by decide +kernel)) (by decide +kernel)
def f12_plug (F : Nat) (x1 : Int32) (x2 : Int32) (x3 : Int32) (x4 : Int32) (x5 : Int32) (h : Hp) : Option (Int32 × Hp) :=
  Option.bind (f12_isPort F x1 x2 h) (fun o3 =>
    if o3.1 = 0 then
      some ((-2 : Int32), o3.2)
    else
      Option.bind (f12_isPort F x3 x4 o3.2) (fun o13 =>
        if o13.1 = 0 then
          some ((-2 : Int32), o13.2)
        else
          if x1 = x3 then
            some ((-2 : Int32), o13.2)
          else
            Option.bind (f12_in F ((x5).toInt64) (1 : Int64) (9 : Int64) o13.2) (fun o31 =>
              if o31.1 = 0 then
                some ((-2 : Int32), o31.2)
              else
                Option.bind (f12_otherOf F (((4 : Int32) * x1) + x2) o31.2) (fun o58 =>
                  if 0 ≤ o58.1 then
                    some ((-5 : Int32), o58.2)
                  else
                    Option.bind (f12_otherOf F (((4 : Int32) * x3) + x4) o58.2) (fun o67 =>
                      if 0 ≤ o67.1 then
                        some ((-5 : Int32), o67.2)
                      else
                        if (o67.2 69 ((4 : Int32)).toNatClampNeg) = (20 : Int32) then
                          some ((-5 : Int32), o67.2)
                        else
                          Option.bind (f12_keeps F  o67.2) (fun o88 =>
                            Option.bind (f12_lays F (((4 : Int32) * x1) + x2) (((4 : Int32) * x3) + x4) x5 o88) (fun o98 =>
                              Option.bind (f12_busesOf F  o98) (fun o102 =>
                                some (o102.1, o102.2)))))))))
set_option maxRecDepth 20000 in
theorem c12_plug (l : Launch) (D : va_G) (ad : Nat → Nat) (cA : Nat → ClassId) (aK aV : Nat → Nat) (B0 : Nat) (hA : ce_Ad ad B0) (F : Nat) (x1 : Int32) (x2 : Int32) (x3 : Int32) (x4 : Int32) (x5 : Int32)  (h : Hp) (r : Int32 × Hp) (e : f12_plug F x1 x2 x3 x4 x5 h = some r) : ce_Ct l D ad cA B0 (ce_St aK aV B0) y12_plug b12_plug 8 (some .int) 3 68 0 0 [.ref (ad 68), .int x1, .int x2, .int x3, .int x4, .int x5] h (some (.int r.1)) r.2 := by
  refine ce_enter hA (by decide) rfl (Nat.le_of_ble_eq_true rfl) (fun p e0 s m below meth c ls C hH hl => ?_)
  have hl : lv_has ls 8 [(0, .ref (ad 68)), (1, .int x1), (2, .int x2), (3, .int x3), (4, .int x4), (5, .int x5)] := hl
  have hx := C.1
  have hb := C.2.1
  have e : Option.bind _ some = some r := (congrArg (fun z => Option.bind z some) e).trans rfl
  unfold f12_plug at e
  refine lv_aload_n hx hb d12_plug_0 rfl (lv_at hl 0 rfl) ?_
  refine lv_iload_n hx hb d12_plug_1 rfl (lv_at hl 1 rfl) ?_
  refine lv_iload_n hx hb d12_plug_2 rfl (lv_at hl 2 rfl) ?_
  obtain ⟨o3, eo3, e⟩ := ce_bd e
  refine ce_callV (As := [.int x1, .int x2]) (rest := []) C (ce_sok aK aV B0) hH (c12_isPort l D ad cA aK aV B0 C.2.2.2.2.2.2.1 F x1 x2  h o3 eo3) lo_68.1 lo_68.2.choose_spec rfl rfl mc12_isPort ml_12_259 mi12_isPort ms12_isPort mI_12 (n := 2) (by decide) rfl ⟨Nat.le_of_ble_eq_true rfl, Nat.le_of_ble_eq_true rfl⟩ ⟨Nat.le_of_ble_eq_true rfl, Nat.le_of_ble_eq_true rfl⟩ hl.1 rfl (Nat.le_of_ble_eq_true rfl) d12_plug_3 (fun H locs hH => ?_)
  refine W.eq (g2 := F0 m 6 ls [.int o3.1]) rfl ?_
  refine lv_if_eq (tgt := 37) hx hb d12_plug_6 (by decide) (fun hc6 => ?_) (fun hc6 => ?_)
  · have e := ce_if1 e hc6
    refine lv_bipush (v := (-2 : Int32)) hx hb d12_plug_37 (by decide) ?_
    exact ce_iretE C (ce_sok aK aV B0) hH e d12_plug_39
  · have e := ce_if0 e hc6
    refine lv_aload_n hx hb d12_plug_9 rfl (lv_at hl 0 rfl) ?_
    refine lv_iload_n hx hb d12_plug_10 rfl (lv_at hl 3 rfl) ?_
    refine lv_iload hx hb d12_plug_11 (lv_at hl 4 rfl) ?_
    obtain ⟨o13, eo13, e⟩ := ce_bd e
    refine ce_callV (As := [.int x3, .int x4]) (rest := []) C (ce_sok aK aV B0) hH (c12_isPort l D ad cA aK aV B0 C.2.2.2.2.2.2.1 F x3 x4  o3.2 o13 eo13) lo_68.1 lo_68.2.choose_spec rfl rfl mc12_isPort ml_12_259 mi12_isPort ms12_isPort mI_12 (n := 2) (by decide) rfl ⟨Nat.le_of_ble_eq_true rfl, Nat.le_of_ble_eq_true rfl⟩ ⟨Nat.le_of_ble_eq_true rfl, Nat.le_of_ble_eq_true rfl⟩ hl.1 rfl (Nat.le_of_ble_eq_true rfl) d12_plug_13 (fun H locs hH => ?_)
    refine W.eq (g2 := F0 m 16 ls [.int o13.1]) rfl ?_
    refine lv_if_eq (tgt := 37) hx hb d12_plug_16 (by decide) (fun hc16 => ?_) (fun hc16 => ?_)
    · have e := ce_if1 e hc16
      refine lv_bipush (v := (-2 : Int32)) hx hb d12_plug_37 (by decide) ?_
      exact ce_iretE C (ce_sok aK aV B0) hH e d12_plug_39
    · have e := ce_if0 e hc16
      refine lv_iload_n hx hb d12_plug_19 rfl (lv_at hl 1 rfl) ?_
      refine lv_iload_n hx hb d12_plug_20 rfl (lv_at hl 3 rfl) ?_
      refine lv_icmp_eq (tgt := 37) hx hb d12_plug_21 (by decide) (fun hc21 => ?_) (fun hc21 => ?_)
      · have e := ce_if1 e hc21
        refine lv_bipush (v := (-2 : Int32)) hx hb d12_plug_37 (by decide) ?_
        exact ce_iretE C (ce_sok aK aV B0) hH e d12_plug_39
      · have e := ce_if0 e hc21
        refine lv_iload hx hb d12_plug_24 (lv_at hl 5 rfl) ?_
        refine lv_i2l (v := (x5).toInt64) hx hb d12_plug_26 rfl ?_
        refine lv_lconst (v := (1 : Int64)) hx hb d12_plug_27 (by decide) ?_
        refine lv_ldc2 (v := (9 : Int64)) hx hb C.2.2.2.1 (C.2.2.2.2.1 _ mk_12_376) d12_plug_28 ?_
        obtain ⟨o31, eo31, e⟩ := ce_bd e
        refine ce_callS (As := [.long ((x5).toInt64), .long (1 : Int64), .long (9 : Int64)]) (rest := []) C (ce_sok aK aV B0) hH (c12_in l D ad cA aK aV B0 C.2.2.2.2.2.2.1 F ((x5).toInt64) (1 : Int64) (9 : Int64)  o13.2 o31 eo31) mc12_in ml_12_98 mt12_in mI_12 (n := 3) (by decide) rfl ⟨Nat.le_of_ble_eq_true rfl, Nat.le_of_ble_eq_true rfl⟩ ⟨Nat.le_of_ble_eq_true rfl, Nat.le_of_ble_eq_true rfl⟩ hl.1 rfl (Nat.le_of_ble_eq_true rfl) d12_plug_31 (fun H locs hH => ?_)
        refine W.eq (g2 := F0 m 34 ls [.int o31.1]) rfl ?_
        refine lv_if_ne (tgt := 40) hx hb d12_plug_34 (by decide) (fun hc34 => ?_) (fun hc34 => ?_)
        · have e := ce_if0 e hc34
          refine lv_iconst (v := (4 : Int32)) hx hb d12_plug_40 (by decide) ?_
          refine lv_iload_n hx hb d12_plug_41 rfl (lv_at hl 1 rfl) ?_
          refine lv_imul hx hb d12_plug_42 ?_
          refine lv_iload_n hx hb d12_plug_43 rfl (lv_at hl 2 rfl) ?_
          refine lv_iadd hx hb d12_plug_44 ?_
          refine lv_istore (lv' := [(6, .int (((4 : Int32) * x1) + x2)), (0, .ref (ad 68)), (1, .int x1), (2, .int x2), (3, .int x3), (4, .int x4), (5, .int x5)]) hx hb d12_plug_45 hl (by decide) rfl (fun ls hl => ?_)
          refine lv_iconst (v := (4 : Int32)) hx hb d12_plug_47 (by decide) ?_
          refine lv_iload_n hx hb d12_plug_48 rfl (lv_at hl 4 rfl) ?_
          refine lv_imul hx hb d12_plug_49 ?_
          refine lv_iload hx hb d12_plug_50 (lv_at hl 5 rfl) ?_
          refine lv_iadd hx hb d12_plug_52 ?_
          refine lv_istore (lv' := [(7, .int (((4 : Int32) * x3) + x4)), (6, .int (((4 : Int32) * x1) + x2)), (0, .ref (ad 68)), (1, .int x1), (2, .int x2), (3, .int x3), (4, .int x4), (5, .int x5)]) hx hb d12_plug_53 hl (by decide) rfl (fun ls hl => ?_)
          refine lv_aload_n hx hb d12_plug_55 rfl (lv_at hl 2 rfl) ?_
          refine lv_iload hx hb d12_plug_56 (lv_at hl 1 rfl) ?_
          obtain ⟨o58, eo58, e⟩ := ce_bd e
          refine ce_callV (As := [.int (((4 : Int32) * x1) + x2)]) (rest := []) C (ce_sok aK aV B0) hH (c12_otherOf l D ad cA aK aV B0 C.2.2.2.2.2.2.1 F (((4 : Int32) * x1) + x2)  o31.2 o58 eo58) lo_68.1 lo_68.2.choose_spec rfl rfl mc12_otherOf ml_12_224 mi12_otherOf ms12_otherOf mI_12 (n := 1) (by decide) rfl ⟨Nat.le_of_ble_eq_true rfl, Nat.le_of_ble_eq_true rfl⟩ ⟨Nat.le_of_ble_eq_true rfl, Nat.le_of_ble_eq_true rfl⟩ hl.1 rfl (Nat.le_of_ble_eq_true rfl) d12_plug_58 (fun H locs hH => ?_)
          refine W.eq (g2 := F0 m 61 ls [.int o58.1]) rfl ?_
          refine lv_if_ge (tgt := 84) hx hb d12_plug_61 (by decide) (fun hc61 => ?_) (fun hc61 => ?_)
          · have e := ce_if1 e hc61
            refine lv_bipush (v := (-5 : Int32)) hx hb d12_plug_84 (by decide) ?_
            exact ce_iretE C (ce_sok aK aV B0) hH e d12_plug_86
          · have e := ce_if0 e hc61
            refine lv_aload_n hx hb d12_plug_64 rfl (lv_at hl 2 rfl) ?_
            refine lv_iload hx hb d12_plug_65 (lv_at hl 0 rfl) ?_
            obtain ⟨o67, eo67, e⟩ := ce_bd e
            refine ce_callV (As := [.int (((4 : Int32) * x3) + x4)]) (rest := []) C (ce_sok aK aV B0) hH (c12_otherOf l D ad cA aK aV B0 C.2.2.2.2.2.2.1 F (((4 : Int32) * x3) + x4)  o58.2 o67 eo67) lo_68.1 lo_68.2.choose_spec rfl rfl mc12_otherOf ml_12_224 mi12_otherOf ms12_otherOf mI_12 (n := 1) (by decide) rfl ⟨Nat.le_of_ble_eq_true rfl, Nat.le_of_ble_eq_true rfl⟩ ⟨Nat.le_of_ble_eq_true rfl, Nat.le_of_ble_eq_true rfl⟩ hl.1 rfl (Nat.le_of_ble_eq_true rfl) d12_plug_67 (fun H locs hH => ?_)
            refine W.eq (g2 := F0 m 70 ls [.int o67.1]) rfl ?_
            refine lv_if_ge (tgt := 84) hx hb d12_plug_70 (by decide) (fun hc70 => ?_) (fun hc70 => ?_)
            · have e := ce_if1 e hc70
              refine lv_bipush (v := (-5 : Int32)) hx hb d12_plug_84 (by decide) ?_
              exact ce_iretE C (ce_sok aK aV B0) hH e d12_plug_86
            · have e := ce_if0 e hc70
              refine lv_aload_n hx hb d12_plug_73 rfl (lv_at hl 2 rfl) ?_
              refine gf_12_7 C hH d12_plug_74 ?_
              refine lv_iconst (v := (4 : Int32)) hx hb d12_plug_77 (by decide) ?_
              refine ce_iald C hH lc_69.1 lc_69.2 (ce_in_vp (by decide)) d12_plug_78 ?_
              refine lv_bipush (v := (20 : Int32)) hx hb d12_plug_79 (by decide) ?_
              refine lv_icmp_ne (tgt := 87) hx hb d12_plug_81 (by decide) (fun hc81 => ?_) (fun hc81 => ?_)
              · have e := ce_if0 e hc81
                refine lv_aload_n hx hb d12_plug_87 rfl (lv_at hl 2 rfl) ?_
                obtain ⟨o88, eo88, e⟩ := ce_bd e
                refine ce_callV (As := []) (rest := []) C (ce_sok aK aV B0) hH (c12_keeps l D ad cA aK aV B0 C.2.2.2.2.2.2.1 F   o67.2 o88 eo88) lo_68.1 lo_68.2.choose_spec rfl rfl mc12_keeps ml_12_378 mi12_keeps ms12_keeps mI_12 (n := 0) (by decide) rfl ⟨Nat.le_of_ble_eq_true rfl, Nat.le_of_ble_eq_true rfl⟩ ⟨Nat.le_of_ble_eq_true rfl, Nat.le_of_ble_eq_true rfl⟩ hl.1 rfl (Nat.le_of_ble_eq_true rfl) d12_plug_88 (fun H locs hH => ?_)
                refine W.eq (g2 := F0 m 91 ls []) rfl ?_
                refine lv_aload_n hx hb d12_plug_91 rfl (lv_at hl 2 rfl) ?_
                refine lv_iload hx hb d12_plug_92 (lv_at hl 1 rfl) ?_
                refine lv_iload hx hb d12_plug_94 (lv_at hl 0 rfl) ?_
                refine lv_iload hx hb d12_plug_96 (lv_at hl 7 rfl) ?_
                obtain ⟨o98, eo98, e⟩ := ce_bd e
                refine ce_callV (As := [.int (((4 : Int32) * x1) + x2), .int (((4 : Int32) * x3) + x4), .int x5]) (rest := []) C (ce_sok aK aV B0) hH (c12_lays l D ad cA aK aV B0 C.2.2.2.2.2.2.1 F (((4 : Int32) * x1) + x2) (((4 : Int32) * x3) + x4) x5  o88 o98 eo98) lo_68.1 lo_68.2.choose_spec rfl rfl mc12_lays ml_12_204 mi12_lays ms12_lays mI_12 (n := 3) (by decide) rfl ⟨Nat.le_of_ble_eq_true rfl, Nat.le_of_ble_eq_true rfl⟩ ⟨Nat.le_of_ble_eq_true rfl, Nat.le_of_ble_eq_true rfl⟩ hl.1 rfl (Nat.le_of_ble_eq_true rfl) d12_plug_98 (fun H locs hH => ?_)
                refine W.eq (g2 := F0 m 101 ls []) rfl ?_
                refine lv_aload_n hx hb d12_plug_101 rfl (lv_at hl 2 rfl) ?_
                obtain ⟨o102, eo102, e⟩ := ce_bd e
                refine ce_callV (As := []) (rest := []) C (ce_sok aK aV B0) hH (c12_busesOf l D ad cA aK aV B0 C.2.2.2.2.2.2.1 F   o98 o102 eo102) lo_68.1 lo_68.2.choose_spec rfl rfl mc12_busesOf ml_12_239 mi12_busesOf ms12_busesOf mI_12 (n := 0) (by decide) rfl ⟨Nat.le_of_ble_eq_true rfl, Nat.le_of_ble_eq_true rfl⟩ ⟨Nat.le_of_ble_eq_true rfl, Nat.le_of_ble_eq_true rfl⟩ hl.1 rfl (Nat.le_of_ble_eq_true rfl) d12_plug_102 (fun H locs hH => ?_)
                refine W.eq (g2 := F0 m 105 ls [.int o102.1]) rfl ?_
                exact ce_iretE C (ce_sok aK aV B0) hH e d12_plug_105
              · have e := ce_if1 e hc81
                refine lv_bipush (v := (-5 : Int32)) hx hb d12_plug_84 (by decide) ?_
                exact ce_iretE C (ce_sok aK aV B0) hH e d12_plug_86
        · have e := ce_if1 e hc34
          refine lv_bipush (v := (-2 : Int32)) hx hb d12_plug_37 (by decide) ?_
          exact ce_iretE C (ce_sok aK aV B0) hH e d12_plug_39
abbrev b12_pull : ByteArray := prog_14_method_98_code
def y12_pull : MethodName := ⟨cn_12, "pull", "(II)I"⟩
theorem d12_pull_0 : decode b12_pull 0 = .ok (.aload_n 0, 1) := by decide +kernel
theorem d12_pull_1 : decode b12_pull 1 = .ok (.iload_n 1, 1) := by decide +kernel
theorem d12_pull_2 : decode b12_pull 2 = .ok (.iload_n 2, 1) := by decide +kernel
theorem d12_pull_3 : decode b12_pull 3 = .ok (.invokevirtual 259, 3) := by decide +kernel
theorem d12_pull_6 : decode b12_pull 6 = .ok (.ifCond .ne 6, 3) := by decide +kernel
theorem d12_pull_9 : decode b12_pull 9 = .ok (.bipush (-2), 2) := by decide +kernel
theorem d12_pull_11 : decode b12_pull 11 = .ok (.ireturn, 1) := by decide +kernel
theorem d12_pull_12 : decode b12_pull 12 = .ok (.aload_n 0, 1) := by decide +kernel
theorem d12_pull_13 : decode b12_pull 13 = .ok (.iconst 4, 1) := by decide +kernel
theorem d12_pull_14 : decode b12_pull 14 = .ok (.iload_n 1, 1) := by decide +kernel
theorem d12_pull_15 : decode b12_pull 15 = .ok (.imul, 1) := by decide +kernel
theorem d12_pull_16 : decode b12_pull 16 = .ok (.iload_n 2, 1) := by decide +kernel
theorem d12_pull_17 : decode b12_pull 17 = .ok (.iadd, 1) := by decide +kernel
theorem d12_pull_18 : decode b12_pull 18 = .ok (.invokevirtual 224, 3) := by decide +kernel
theorem d12_pull_21 : decode b12_pull 21 = .ok (.ifCond .lt 14, 3) := by decide +kernel
theorem d12_pull_24 : decode b12_pull 24 = .ok (.aload_n 0, 1) := by decide +kernel
theorem d12_pull_25 : decode b12_pull 25 = .ok (.getfield 7, 3) := by decide +kernel
theorem d12_pull_28 : decode b12_pull 28 = .ok (.iconst 4, 1) := by decide +kernel
theorem d12_pull_29 : decode b12_pull 29 = .ok (.iaload, 1) := by decide +kernel
theorem d12_pull_30 : decode b12_pull 30 = .ok (.bipush 20, 2) := by decide +kernel
theorem d12_pull_32 : decode b12_pull 32 = .ok (.if_icmp .ne 6, 3) := by decide +kernel
theorem d12_pull_35 : decode b12_pull 35 = .ok (.bipush (-5), 2) := by decide +kernel
theorem d12_pull_37 : decode b12_pull 37 = .ok (.ireturn, 1) := by decide +kernel
theorem d12_pull_38 : decode b12_pull 38 = .ok (.aload_n 0, 1) := by decide +kernel
theorem d12_pull_39 : decode b12_pull 39 = .ok (.invokevirtual 378, 3) := by decide +kernel
theorem d12_pull_42 : decode b12_pull 42 = .ok (.aload_n 0, 1) := by decide +kernel
theorem d12_pull_43 : decode b12_pull 43 = .ok (.iconst 4, 1) := by decide +kernel
theorem d12_pull_44 : decode b12_pull 44 = .ok (.iload_n 1, 1) := by decide +kernel
theorem d12_pull_45 : decode b12_pull 45 = .ok (.imul, 1) := by decide +kernel
theorem d12_pull_46 : decode b12_pull 46 = .ok (.iload_n 2, 1) := by decide +kernel
theorem d12_pull_47 : decode b12_pull 47 = .ok (.iadd, 1) := by decide +kernel
theorem d12_pull_48 : decode b12_pull 48 = .ok (.invokevirtual 373, 3) := by decide +kernel
theorem d12_pull_51 : decode b12_pull 51 = .ok (.aload_n 0, 1) := by decide +kernel
theorem d12_pull_52 : decode b12_pull 52 = .ok (.invokevirtual 239, 3) := by decide +kernel
theorem d12_pull_55 : decode b12_pull 55 = .ok (.ireturn, 1) := by decide +kernel
def f12_pull (F : Nat) (x1 : Int32) (x2 : Int32) (h : Hp) : Option (Int32 × Hp) :=
  Option.bind (f12_isPort F x1 x2 h) (fun o3 =>
    if o3.1 = 0 then
      some ((-2 : Int32), o3.2)
    else
      Option.bind (f12_otherOf F (((4 : Int32) * x1) + x2) o3.2) (fun o18 =>
        if o18.1 < 0 then
          some ((-5 : Int32), o18.2)
        else
          if (o18.2 69 ((4 : Int32)).toNatClampNeg) = (20 : Int32) then
            some ((-5 : Int32), o18.2)
          else
            Option.bind (f12_keeps F  o18.2) (fun o39 =>
              Option.bind (f12_takes F (((4 : Int32) * x1) + x2) o39) (fun o48 =>
                Option.bind (f12_busesOf F  o48) (fun o52 =>
                  some (o52.1, o52.2))))))
set_option maxRecDepth 20000 in
theorem c12_pull (l : Launch) (D : va_G) (ad : Nat → Nat) (cA : Nat → ClassId) (aK aV : Nat → Nat) (B0 : Nat) (hA : ce_Ad ad B0) (F : Nat) (x1 : Int32) (x2 : Int32)  (h : Hp) (r : Int32 × Hp) (e : f12_pull F x1 x2 h = some r) : ce_Ct l D ad cA B0 (ce_St aK aV B0) y12_pull b12_pull 3 (some .int) 3 68 0 0 [.ref (ad 68), .int x1, .int x2] h (some (.int r.1)) r.2 := by
  refine ce_enter hA (by decide) rfl (Nat.le_of_ble_eq_true rfl) (fun p e0 s m below meth c ls C hH hl => ?_)
  have hl : lv_has ls 3 [(0, .ref (ad 68)), (1, .int x1), (2, .int x2)] := hl
  have hx := C.1
  have hb := C.2.1
  have e : Option.bind _ some = some r := (congrArg (fun z => Option.bind z some) e).trans rfl
  unfold f12_pull at e
  refine lv_aload_n hx hb d12_pull_0 rfl (lv_at hl 0 rfl) ?_
  refine lv_iload_n hx hb d12_pull_1 rfl (lv_at hl 1 rfl) ?_
  refine lv_iload_n hx hb d12_pull_2 rfl (lv_at hl 2 rfl) ?_
  obtain ⟨o3, eo3, e⟩ := ce_bd e
  refine ce_callV (As := [.int x1, .int x2]) (rest := []) C (ce_sok aK aV B0) hH (c12_isPort l D ad cA aK aV B0 C.2.2.2.2.2.2.1 F x1 x2  h o3 eo3) lo_68.1 lo_68.2.choose_spec rfl rfl mc12_isPort ml_12_259 mi12_isPort ms12_isPort mI_12 (n := 2) (by decide) rfl ⟨Nat.le_of_ble_eq_true rfl, Nat.le_of_ble_eq_true rfl⟩ ⟨Nat.le_of_ble_eq_true rfl, Nat.le_of_ble_eq_true rfl⟩ hl.1 rfl (Nat.le_of_ble_eq_true rfl) d12_pull_3 (fun H locs hH => ?_)
  refine W.eq (g2 := F0 m 6 ls [.int o3.1]) rfl ?_
  refine lv_if_ne (tgt := 12) hx hb d12_pull_6 (by decide) (fun hc6 => ?_) (fun hc6 => ?_)
  · have e := ce_if0 e hc6
    refine lv_aload_n hx hb d12_pull_12 rfl (lv_at hl 0 rfl) ?_
    refine lv_iconst (v := (4 : Int32)) hx hb d12_pull_13 (by decide) ?_
    refine lv_iload_n hx hb d12_pull_14 rfl (lv_at hl 1 rfl) ?_
    refine lv_imul hx hb d12_pull_15 ?_
    refine lv_iload_n hx hb d12_pull_16 rfl (lv_at hl 2 rfl) ?_
    refine lv_iadd hx hb d12_pull_17 ?_
    obtain ⟨o18, eo18, e⟩ := ce_bd e
    refine ce_callV (As := [.int (((4 : Int32) * x1) + x2)]) (rest := []) C (ce_sok aK aV B0) hH (c12_otherOf l D ad cA aK aV B0 C.2.2.2.2.2.2.1 F (((4 : Int32) * x1) + x2)  o3.2 o18 eo18) lo_68.1 lo_68.2.choose_spec rfl rfl mc12_otherOf ml_12_224 mi12_otherOf ms12_otherOf mI_12 (n := 1) (by decide) rfl ⟨Nat.le_of_ble_eq_true rfl, Nat.le_of_ble_eq_true rfl⟩ ⟨Nat.le_of_ble_eq_true rfl, Nat.le_of_ble_eq_true rfl⟩ hl.1 rfl (Nat.le_of_ble_eq_true rfl) d12_pull_18 (fun H locs hH => ?_)
    refine W.eq (g2 := F0 m 21 ls [.int o18.1]) rfl ?_
    refine lv_if_lt (tgt := 35) hx hb d12_pull_21 (by decide) (fun hc21 => ?_) (fun hc21 => ?_)
    · have e := ce_if1 e hc21
      refine lv_bipush (v := (-5 : Int32)) hx hb d12_pull_35 (by decide) ?_
      exact ce_iretE C (ce_sok aK aV B0) hH e d12_pull_37
    · have e := ce_if0 e hc21
      refine lv_aload_n hx hb d12_pull_24 rfl (lv_at hl 0 rfl) ?_
      refine gf_12_7 C hH d12_pull_25 ?_
      refine lv_iconst (v := (4 : Int32)) hx hb d12_pull_28 (by decide) ?_
      refine ce_iald C hH lc_69.1 lc_69.2 (ce_in_vp (by decide)) d12_pull_29 ?_
      refine lv_bipush (v := (20 : Int32)) hx hb d12_pull_30 (by decide) ?_
      refine lv_icmp_ne (tgt := 38) hx hb d12_pull_32 (by decide) (fun hc32 => ?_) (fun hc32 => ?_)
      · have e := ce_if0 e hc32
        refine lv_aload_n hx hb d12_pull_38 rfl (lv_at hl 0 rfl) ?_
        obtain ⟨o39, eo39, e⟩ := ce_bd e
        refine ce_callV (As := []) (rest := []) C (ce_sok aK aV B0) hH (c12_keeps l D ad cA aK aV B0 C.2.2.2.2.2.2.1 F   o18.2 o39 eo39) lo_68.1 lo_68.2.choose_spec rfl rfl mc12_keeps ml_12_378 mi12_keeps ms12_keeps mI_12 (n := 0) (by decide) rfl ⟨Nat.le_of_ble_eq_true rfl, Nat.le_of_ble_eq_true rfl⟩ ⟨Nat.le_of_ble_eq_true rfl, Nat.le_of_ble_eq_true rfl⟩ hl.1 rfl (Nat.le_of_ble_eq_true rfl) d12_pull_39 (fun H locs hH => ?_)
        refine W.eq (g2 := F0 m 42 ls []) rfl ?_
        refine lv_aload_n hx hb d12_pull_42 rfl (lv_at hl 0 rfl) ?_
        refine lv_iconst (v := (4 : Int32)) hx hb d12_pull_43 (by decide) ?_
        refine lv_iload_n hx hb d12_pull_44 rfl (lv_at hl 1 rfl) ?_
        refine lv_imul hx hb d12_pull_45 ?_
        refine lv_iload_n hx hb d12_pull_46 rfl (lv_at hl 2 rfl) ?_
        refine lv_iadd hx hb d12_pull_47 ?_
        obtain ⟨o48, eo48, e⟩ := ce_bd e
        refine ce_callV (As := [.int (((4 : Int32) * x1) + x2)]) (rest := []) C (ce_sok aK aV B0) hH (c12_takes l D ad cA aK aV B0 C.2.2.2.2.2.2.1 F (((4 : Int32) * x1) + x2)  o39 o48 eo48) lo_68.1 lo_68.2.choose_spec rfl rfl mc12_takes ml_12_373 mi12_takes ms12_takes mI_12 (n := 1) (by decide) rfl ⟨Nat.le_of_ble_eq_true rfl, Nat.le_of_ble_eq_true rfl⟩ ⟨Nat.le_of_ble_eq_true rfl, Nat.le_of_ble_eq_true rfl⟩ hl.1 rfl (Nat.le_of_ble_eq_true rfl) d12_pull_48 (fun H locs hH => ?_)
        refine W.eq (g2 := F0 m 51 ls []) rfl ?_
        refine lv_aload_n hx hb d12_pull_51 rfl (lv_at hl 0 rfl) ?_
        obtain ⟨o52, eo52, e⟩ := ce_bd e
        refine ce_callV (As := []) (rest := []) C (ce_sok aK aV B0) hH (c12_busesOf l D ad cA aK aV B0 C.2.2.2.2.2.2.1 F   o48 o52 eo52) lo_68.1 lo_68.2.choose_spec rfl rfl mc12_busesOf ml_12_239 mi12_busesOf ms12_busesOf mI_12 (n := 0) (by decide) rfl ⟨Nat.le_of_ble_eq_true rfl, Nat.le_of_ble_eq_true rfl⟩ ⟨Nat.le_of_ble_eq_true rfl, Nat.le_of_ble_eq_true rfl⟩ hl.1 rfl (Nat.le_of_ble_eq_true rfl) d12_pull_52 (fun H locs hH => ?_)
        refine W.eq (g2 := F0 m 55 ls [.int o52.1]) rfl ?_
        exact ce_iretE C (ce_sok aK aV B0) hH e d12_pull_55
      · have e := ce_if1 e hc32
        refine lv_bipush (v := (-5 : Int32)) hx hb d12_pull_35 (by decide) ?_
        exact ce_iretE C (ce_sok aK aV B0) hH e d12_pull_37
  · have e := ce_if1 e hc6
    refine lv_bipush (v := (-2 : Int32)) hx hb d12_pull_9 (by decide) ?_
    exact ce_iretE C (ce_sok aK aV B0) hH e d12_pull_11
abbrev b12_force : ByteArray := prog_14_method_99_code
def y12_force : MethodName := ⟨cn_12, "force", "(II)I"⟩
theorem d12_force_0 : decode b12_force 0 = .ok (.aload_n 0, 1) := by decide +kernel
theorem d12_force_1 : decode b12_force 1 = .ok (.iload_n 1, 1) := by decide +kernel
theorem d12_force_2 : decode b12_force 2 = .ok (.invokevirtual 220, 3) := by decide +kernel
theorem d12_force_5 : decode b12_force 5 = .ok (.ifCond .eq 13, 3) := by decide +kernel
theorem d12_force_8 : decode b12_force 8 = .ok (.iload_n 2, 1) := by decide +kernel
theorem d12_force_9 : decode b12_force 9 = .ok (.i2l, 1) := by decide +kernel
theorem d12_force_10 : decode b12_force 10 = .ok (.lconst 0, 1) := by decide +kernel
theorem d12_force_11 : decode b12_force 11 = .ok (.lconst 1, 1) := by decide +kernel
theorem d12_force_12 : decode b12_force 12 = .ok (.invokestatic 98, 3) := by decide +kernel
theorem d12_force_15 : decode b12_force 15 = .ok (.ifCond .ne 6, 3) := by decide +kernel
theorem d12_force_18 : decode b12_force 18 = .ok (.bipush (-2), 2) := by decide +kernel
theorem d12_force_20 : decode b12_force 20 = .ok (.ireturn, 1) := by decide +kernel
theorem d12_force_21 : decode b12_force 21 = .ok (.aload_n 0, 1) := by decide +kernel
theorem d12_force_22 : decode b12_force 22 = .ok (.getfield 7, 3) := by decide +kernel
theorem d12_force_25 : decode b12_force 25 = .ok (.bipush 15, 2) := by decide +kernel
theorem d12_force_27 : decode b12_force 27 = .ok (.iload_n 1, 1) := by decide +kernel
theorem d12_force_28 : decode b12_force 28 = .ok (.iadd, 1) := by decide +kernel
theorem d12_force_29 : decode b12_force 29 = .ok (.iaload, 1) := by decide +kernel
theorem d12_force_30 : decode b12_force 30 = .ok (.iload_n 2, 1) := by decide +kernel
theorem d12_force_31 : decode b12_force 31 = .ok (.if_icmp .eq 14, 3) := by decide +kernel
theorem d12_force_34 : decode b12_force 34 = .ok (.aload_n 0, 1) := by decide +kernel
theorem d12_force_35 : decode b12_force 35 = .ok (.getfield 7, 3) := by decide +kernel
theorem d12_force_38 : decode b12_force 38 = .ok (.iconst 4, 1) := by decide +kernel
theorem d12_force_39 : decode b12_force 39 = .ok (.iaload, 1) := by decide +kernel
theorem d12_force_40 : decode b12_force 40 = .ok (.bipush 20, 2) := by decide +kernel
theorem d12_force_42 : decode b12_force 42 = .ok (.if_icmp .ne 6, 3) := by decide +kernel
theorem d12_force_45 : decode b12_force 45 = .ok (.bipush (-5), 2) := by decide +kernel
theorem d12_force_47 : decode b12_force 47 = .ok (.ireturn, 1) := by decide +kernel
theorem d12_force_48 : decode b12_force 48 = .ok (.aload_n 0, 1) := by decide +kernel
theorem d12_force_49 : decode b12_force 49 = .ok (.invokevirtual 378, 3) := by decide +kernel
theorem d12_force_52 : decode b12_force 52 = .ok (.aload_n 0, 1) := by decide +kernel
theorem d12_force_53 : decode b12_force 53 = .ok (.getfield 7, 3) := by decide +kernel
theorem d12_force_56 : decode b12_force 56 = .ok (.bipush 15, 2) := by decide +kernel
theorem d12_force_58 : decode b12_force 58 = .ok (.iload_n 1, 1) := by decide +kernel
theorem d12_force_59 : decode b12_force 59 = .ok (.iadd, 1) := by decide +kernel
theorem d12_force_60 : decode b12_force 60 = .ok (.iload_n 2, 1) := by decide +kernel
theorem d12_force_61 : decode b12_force 61 = .ok (.iastore, 1) := by decide +kernel
theorem d12_force_62 : decode b12_force 62 = .ok (.aload_n 0, 1) := by decide +kernel
theorem d12_force_63 : decode b12_force 63 = .ok (.iload_n 1, 1) := by decide +kernel
theorem d12_force_64 : decode b12_force 64 = .ok (.invokevirtual 370, 3) := by decide +kernel
theorem d12_force_67 : decode b12_force 67 = .ok (.ireturn, 1) := by decide +kernel
def f12_force (F : Nat) (x1 : Int32) (x2 : Int32) (h : Hp) : Option (Int32 × Hp) :=
  Option.bind (f12_isNode F x1 h) (fun o2 =>
    if o2.1 = 0 then
      some ((-2 : Int32), o2.2)
    else
      Option.bind (f12_in F ((x2).toInt64) (0 : Int64) (1 : Int64) o2.2) (fun o12 =>
        if o12.1 = 0 then
          some ((-2 : Int32), o12.2)
        else
          if ce_in ((15 : Int32) + x1) 125 = true then
            if (o12.2 69 (((15 : Int32) + x1)).toNatClampNeg) = x2 then
              some ((-5 : Int32), o12.2)
            else
              if (o12.2 69 ((4 : Int32)).toNatClampNeg) = (20 : Int32) then
                some ((-5 : Int32), o12.2)
              else
                Option.bind (f12_keeps F  o12.2) (fun o49 =>
                  if ce_in ((15 : Int32) + x1) 125 = true then
                    ce_nm (hp_up o49 69 (((15 : Int32) + x1)).toNatClampNeg x2) (fun h_61 =>
                      Option.bind (f12_root F x1 h_61) (fun o64 =>
                        some (o64.1, o64.2)))
                  else none)
          else none))
set_option maxRecDepth 20000 in
theorem c12_force (l : Launch) (D : va_G) (ad : Nat → Nat) (cA : Nat → ClassId) (aK aV : Nat → Nat) (B0 : Nat) (hA : ce_Ad ad B0) (F : Nat) (x1 : Int32) (x2 : Int32)  (h : Hp) (r : Int32 × Hp) (e : f12_force F x1 x2 h = some r) : ce_Ct l D ad cA B0 (ce_St aK aV B0) y12_force b12_force 3 (some .int) 6 134 0 0 [.ref (ad 68), .int x1, .int x2] h (some (.int r.1)) r.2 := by
  refine ce_enter hA (by decide) rfl (Nat.le_of_ble_eq_true rfl) (fun p e0 s m below meth c ls C hH hl => ?_)
  have hl : lv_has ls 3 [(0, .ref (ad 68)), (1, .int x1), (2, .int x2)] := hl
  have hx := C.1
  have hb := C.2.1
  have e : Option.bind _ some = some r := (congrArg (fun z => Option.bind z some) e).trans rfl
  unfold f12_force at e
  refine lv_aload_n hx hb d12_force_0 rfl (lv_at hl 0 rfl) ?_
  refine lv_iload_n hx hb d12_force_1 rfl (lv_at hl 1 rfl) ?_
  obtain ⟨o2, eo2, e⟩ := ce_bd e
  refine ce_callV (As := [.int x1]) (rest := []) C (ce_sok aK aV B0) hH (c12_isNode l D ad cA aK aV B0 C.2.2.2.2.2.2.1 F x1  h o2 eo2) lo_68.1 lo_68.2.choose_spec rfl rfl mc12_isNode ml_12_220 mi12_isNode ms12_isNode mI_12 (n := 1) (by decide) rfl ⟨Nat.le_of_ble_eq_true rfl, Nat.le_of_ble_eq_true rfl⟩ ⟨Nat.le_of_ble_eq_true rfl, Nat.le_of_ble_eq_true rfl⟩ hl.1 rfl (Nat.le_of_ble_eq_true rfl) d12_force_2 (fun H locs hH => ?_)
  refine W.eq (g2 := F0 m 5 ls [.int o2.1]) rfl ?_
  refine lv_if_eq (tgt := 18) hx hb d12_force_5 (by decide) (fun hc5 => ?_) (fun hc5 => ?_)
  · have e := ce_if1 e hc5
    refine lv_bipush (v := (-2 : Int32)) hx hb d12_force_18 (by decide) ?_
    exact ce_iretE C (ce_sok aK aV B0) hH e d12_force_20
  · have e := ce_if0 e hc5
    refine lv_iload_n hx hb d12_force_8 rfl (lv_at hl 2 rfl) ?_
    refine lv_i2l (v := (x2).toInt64) hx hb d12_force_9 rfl ?_
    refine lv_lconst (v := (0 : Int64)) hx hb d12_force_10 (by decide) ?_
    refine lv_lconst (v := (1 : Int64)) hx hb d12_force_11 (by decide) ?_
    obtain ⟨o12, eo12, e⟩ := ce_bd e
    refine ce_callS (As := [.long ((x2).toInt64), .long (0 : Int64), .long (1 : Int64)]) (rest := []) C (ce_sok aK aV B0) hH (c12_in l D ad cA aK aV B0 C.2.2.2.2.2.2.1 F ((x2).toInt64) (0 : Int64) (1 : Int64)  o2.2 o12 eo12) mc12_in ml_12_98 mt12_in mI_12 (n := 3) (by decide) rfl ⟨Nat.le_of_ble_eq_true rfl, Nat.le_of_ble_eq_true rfl⟩ ⟨Nat.le_of_ble_eq_true rfl, Nat.le_of_ble_eq_true rfl⟩ hl.1 rfl (Nat.le_of_ble_eq_true rfl) d12_force_12 (fun H locs hH => ?_)
    refine W.eq (g2 := F0 m 15 ls [.int o12.1]) rfl ?_
    refine lv_if_ne (tgt := 21) hx hb d12_force_15 (by decide) (fun hc15 => ?_) (fun hc15 => ?_)
    · have e := ce_if0 e hc15
      refine lv_aload_n hx hb d12_force_21 rfl (lv_at hl 0 rfl) ?_
      refine gf_12_7 C hH d12_force_22 ?_
      refine lv_bipush (v := (15 : Int32)) hx hb d12_force_25 (by decide) ?_
      refine lv_iload_n hx hb d12_force_27 rfl (lv_at hl 1 rfl) ?_
      refine lv_iadd hx hb d12_force_28 ?_
      obtain ⟨hi29, e⟩ := ce_gd e
      refine ce_iald C hH lc_69.1 lc_69.2 (ce_in_vp hi29) d12_force_29 ?_
      refine lv_iload_n hx hb d12_force_30 rfl (lv_at hl 2 rfl) ?_
      refine lv_icmp_eq (tgt := 45) hx hb d12_force_31 (by decide) (fun hc31 => ?_) (fun hc31 => ?_)
      · have e := ce_if1 e hc31
        refine lv_bipush (v := (-5 : Int32)) hx hb d12_force_45 (by decide) ?_
        exact ce_iretE C (ce_sok aK aV B0) hH e d12_force_47
      · have e := ce_if0 e hc31
        refine lv_aload_n hx hb d12_force_34 rfl (lv_at hl 0 rfl) ?_
        refine gf_12_7 C hH d12_force_35 ?_
        refine lv_iconst (v := (4 : Int32)) hx hb d12_force_38 (by decide) ?_
        refine ce_iald C hH lc_69.1 lc_69.2 (ce_in_vp (by decide)) d12_force_39 ?_
        refine lv_bipush (v := (20 : Int32)) hx hb d12_force_40 (by decide) ?_
        refine lv_icmp_ne (tgt := 48) hx hb d12_force_42 (by decide) (fun hc42 => ?_) (fun hc42 => ?_)
        · have e := ce_if0 e hc42
          refine lv_aload_n hx hb d12_force_48 rfl (lv_at hl 0 rfl) ?_
          obtain ⟨o49, eo49, e⟩ := ce_bd e
          refine ce_callV (As := []) (rest := []) C (ce_sok aK aV B0) hH (c12_keeps l D ad cA aK aV B0 C.2.2.2.2.2.2.1 F   o12.2 o49 eo49) lo_68.1 lo_68.2.choose_spec rfl rfl mc12_keeps ml_12_378 mi12_keeps ms12_keeps mI_12 (n := 0) (by decide) rfl ⟨Nat.le_of_ble_eq_true rfl, Nat.le_of_ble_eq_true rfl⟩ ⟨Nat.le_of_ble_eq_true rfl, Nat.le_of_ble_eq_true rfl⟩ hl.1 rfl (Nat.le_of_ble_eq_true rfl) d12_force_49 (fun H locs hH => ?_)
          refine W.eq (g2 := F0 m 52 ls []) rfl ?_
          refine lv_aload_n hx hb d12_force_52 rfl (lv_at hl 0 rfl) ?_
          refine gf_12_7 C hH d12_force_53 ?_
          refine lv_bipush (v := (15 : Int32)) hx hb d12_force_56 (by decide) ?_
          refine lv_iload_n hx hb d12_force_58 rfl (lv_at hl 1 rfl) ?_
          refine lv_iadd hx hb d12_force_59 ?_
          refine lv_iload_n hx hb d12_force_60 rfl (lv_at hl 2 rfl) ?_
          obtain ⟨hi61, e⟩ := ce_gd e
          refine ce_iast C hH lc_69.1 lc_69.2 (ce_in_vp hi61) d12_force_61 (fun H locs hH => ?_)
          obtain ⟨h_61, eh_61, e⟩ := ce_nmE e
          rw [← eh_61] at hH
          refine lv_aload_n hx hb d12_force_62 rfl (lv_at hl 0 rfl) ?_
          refine lv_iload_n hx hb d12_force_63 rfl (lv_at hl 1 rfl) ?_
          obtain ⟨o64, eo64, e⟩ := ce_bd e
          refine ce_callV (As := [.int x1]) (rest := []) C (ce_sok aK aV B0) hH (c12_root l D ad cA aK aV B0 C.2.2.2.2.2.2.1 F x1  h_61 o64 eo64) lo_68.1 lo_68.2.choose_spec rfl rfl mc12_root ml_12_370 mi12_root ms12_root mI_12 (n := 1) (by decide) rfl ⟨Nat.le_of_ble_eq_true rfl, Nat.le_of_ble_eq_true rfl⟩ ⟨Nat.le_of_ble_eq_true rfl, Nat.le_of_ble_eq_true rfl⟩ hl.1 rfl (Nat.le_of_ble_eq_true rfl) d12_force_64 (fun H locs hH => ?_)
          refine W.eq (g2 := F0 m 67 ls [.int o64.1]) rfl ?_
          exact ce_iretE C (ce_sok aK aV B0) hH e d12_force_67
        · have e := ce_if1 e hc42
          refine lv_bipush (v := (-5 : Int32)) hx hb d12_force_45 (by decide) ?_
          exact ce_iretE C (ce_sok aK aV B0) hH e d12_force_47
    · have e := ce_if1 e hc15
      refine lv_bipush (v := (-2 : Int32)) hx hb d12_force_18 (by decide) ?_
      exact ce_iretE C (ce_sok aK aV B0) hH e d12_force_20
abbrev b12_undo : ByteArray := prog_14_method_100_code
def y12_undo : MethodName := ⟨cn_12, "undo", "()I"⟩
theorem d12_undo_0 : decode b12_undo 0 = .ok (.aload_n 0, 1) := by decide +kernel
theorem d12_undo_1 : decode b12_undo 1 = .ok (.invokevirtual 355, 3) := by decide +kernel
theorem d12_undo_4 : decode b12_undo 4 = .ok (.ifCond .ne 6, 3) := by decide +kernel
theorem d12_undo_7 : decode b12_undo 7 = .ok (.bipush (-2), 2) := by decide +kernel
theorem d12_undo_9 : decode b12_undo 9 = .ok (.ireturn, 1) := by decide +kernel
theorem d12_undo_10 : decode b12_undo 10 = .ok (.aload_n 0, 1) := by decide +kernel
theorem d12_undo_11 : decode b12_undo 11 = .ok (.getfield 7, 3) := by decide +kernel
theorem d12_undo_14 : decode b12_undo 14 = .ok (.iconst 4, 1) := by decide +kernel
theorem d12_undo_15 : decode b12_undo 15 = .ok (.iaload, 1) := by decide +kernel
theorem d12_undo_16 : decode b12_undo 16 = .ok (.ifCond .ne 6, 3) := by decide +kernel
theorem d12_undo_19 : decode b12_undo 19 = .ok (.bipush (-5), 2) := by decide +kernel
theorem d12_undo_21 : decode b12_undo 21 = .ok (.ireturn, 1) := by decide +kernel
theorem d12_undo_22 : decode b12_undo 22 = .ok (.aload_n 0, 1) := by decide +kernel
theorem d12_undo_23 : decode b12_undo 23 = .ok (.aload_n 0, 1) := by decide +kernel
theorem d12_undo_24 : decode b12_undo 24 = .ok (.getfield 7, 3) := by decide +kernel
theorem d12_undo_27 : decode b12_undo 27 = .ok (.iconst 4, 1) := by decide +kernel
theorem d12_undo_28 : decode b12_undo 28 = .ok (.iaload, 1) := by decide +kernel
theorem d12_undo_29 : decode b12_undo 29 = .ok (.iconst 1, 1) := by decide +kernel
theorem d12_undo_30 : decode b12_undo 30 = .ok (.isub, 1) := by decide +kernel
theorem d12_undo_31 : decode b12_undo 31 = .ok (.invokevirtual 381, 3) := by decide +kernel
theorem d12_undo_34 : decode b12_undo 34 = .ok (.aload_n 0, 1) := by decide +kernel
theorem d12_undo_35 : decode b12_undo 35 = .ok (.getfield 7, 3) := by decide +kernel
theorem d12_undo_38 : decode b12_undo 38 = .ok (.iconst 4, 1) := by decide +kernel
theorem d12_undo_39 : decode b12_undo 39 = .ok (.iaload, 1) := by decide +kernel
theorem d12_undo_40 : decode b12_undo 40 = .ok (.ireturn, 1) := by decide +kernel
theorem mc12_goesBack : Cond.code y12_goesBack b12_goesBack 3 none ∈ ce_cm := ce_cm_of (List.mem_of_getElem? (i := 1663) (by decide +kernel)) (by decide +kernel)
theorem ml_12_381 : Cond.methodLink cn_12 381 y12_goesBack ∈ ce_cm := ce_cm_of (List.mem_of_getElem? (i := 1660) (by decide +kernel)) (by decide +kernel)
theorem mi12_goesBack : Cond.instanceMethod y12_goesBack ∈ ce_cm := ce_cm_of (List.mem_of_getElem? (i := 1662) (by decide +kernel)) (by decide +kernel)
theorem ms12_goesBack : Cond.selects cn_12 y12_goesBack y12_goesBack ∈ ce_cm := ce_cm_of (List.mem_of_getElem? (i := 88) (by decide +kernel)) (by decide +kernel)
def f12_undo (F : Nat)  (h : Hp) : Option (Int32 × Hp) :=
  Option.bind (f12_is F  h) (fun o1 =>
    if o1.1 = 0 then
      some ((-2 : Int32), o1.2)
    else
      if (o1.2 69 ((4 : Int32)).toNatClampNeg) = 0 then
        some ((-5 : Int32), o1.2)
      else
        Option.bind (f12_goesBack F ((o1.2 69 ((4 : Int32)).toNatClampNeg) - (1 : Int32)) o1.2) (fun o31 =>
          some (o31 69 ((4 : Int32)).toNatClampNeg, o31)))
set_option maxRecDepth 20000 in
theorem c12_undo (l : Launch) (D : va_G) (ad : Nat → Nat) (cA : Nat → ClassId) (aK aV : Nat → Nat) (B0 : Nat) (hA : ce_Ad ad B0) (F : Nat)   (h : Hp) (r : Int32 × Hp) (e : f12_undo F  h = some r) : ce_Ct l D ad cA B0 (ce_St aK aV B0) y12_undo b12_undo 1 (some .int) 1 22 0 0 [.ref (ad 68)] h (some (.int r.1)) r.2 := by
  refine ce_enter hA (by decide) rfl (Nat.le_of_ble_eq_true rfl) (fun p e0 s m below meth c ls C hH hl => ?_)
  have hl : lv_has ls 1 [(0, .ref (ad 68))] := hl
  have hx := C.1
  have hb := C.2.1
  have e : Option.bind _ some = some r := (congrArg (fun z => Option.bind z some) e).trans rfl
  unfold f12_undo at e
  refine lv_aload_n hx hb d12_undo_0 rfl (lv_at hl 0 rfl) ?_
  obtain ⟨o1, eo1, e⟩ := ce_bd e
  refine ce_callV (As := []) (rest := []) C (ce_sok aK aV B0) hH (c12_is l D ad cA aK aV B0 C.2.2.2.2.2.2.1 F   h o1 eo1) lo_68.1 lo_68.2.choose_spec rfl rfl mc12_is ml_12_355 mi12_is ms12_is mI_12 (n := 0) (by decide) rfl ⟨Nat.le_of_ble_eq_true rfl, Nat.le_of_ble_eq_true rfl⟩ ⟨Nat.le_of_ble_eq_true rfl, Nat.le_of_ble_eq_true rfl⟩ hl.1 rfl (Nat.le_of_ble_eq_true rfl) d12_undo_1 (fun H locs hH => ?_)
  refine W.eq (g2 := F0 m 4 ls [.int o1.1]) rfl ?_
  refine lv_if_ne (tgt := 10) hx hb d12_undo_4 (by decide) (fun hc4 => ?_) (fun hc4 => ?_)
  · have e := ce_if0 e hc4
    refine lv_aload_n hx hb d12_undo_10 rfl (lv_at hl 0 rfl) ?_
    refine gf_12_7 C hH d12_undo_11 ?_
    refine lv_iconst (v := (4 : Int32)) hx hb d12_undo_14 (by decide) ?_
    refine ce_iald C hH lc_69.1 lc_69.2 (ce_in_vp (by decide)) d12_undo_15 ?_
    refine lv_if_ne (tgt := 22) hx hb d12_undo_16 (by decide) (fun hc16 => ?_) (fun hc16 => ?_)
    · have e := ce_if0 e hc16
      refine lv_aload_n hx hb d12_undo_22 rfl (lv_at hl 0 rfl) ?_
      refine lv_aload_n hx hb d12_undo_23 rfl (lv_at hl 0 rfl) ?_
      refine gf_12_7 C hH d12_undo_24 ?_
      refine lv_iconst (v := (4 : Int32)) hx hb d12_undo_27 (by decide) ?_
      refine ce_iald C hH lc_69.1 lc_69.2 (ce_in_vp (by decide)) d12_undo_28 ?_
      refine lv_iconst (v := (1 : Int32)) hx hb d12_undo_29 (by decide) ?_
      refine lv_isub hx hb d12_undo_30 ?_
      obtain ⟨o31, eo31, e⟩ := ce_bd e
      refine ce_callV (As := [.int ((o1.2 69 ((4 : Int32)).toNatClampNeg) - (1 : Int32))]) (rest := []) C (ce_sok aK aV B0) hH (c12_goesBack l D ad cA aK aV B0 C.2.2.2.2.2.2.1 F ((o1.2 69 ((4 : Int32)).toNatClampNeg) - (1 : Int32))  o1.2 o31 eo31) lo_68.1 lo_68.2.choose_spec rfl rfl mc12_goesBack ml_12_381 mi12_goesBack ms12_goesBack mI_12 (n := 1) (by decide) rfl ⟨Nat.le_of_ble_eq_true rfl, Nat.le_of_ble_eq_true rfl⟩ ⟨Nat.le_of_ble_eq_true rfl, Nat.le_of_ble_eq_true rfl⟩ hl.1 rfl (Nat.le_of_ble_eq_true rfl) d12_undo_31 (fun H locs hH => ?_)
      refine W.eq (g2 := F0 m 34 ls []) rfl ?_
      refine lv_aload_n hx hb d12_undo_34 rfl (lv_at hl 0 rfl) ?_
      refine gf_12_7 C hH d12_undo_35 ?_
      refine lv_iconst (v := (4 : Int32)) hx hb d12_undo_38 (by decide) ?_
      refine ce_iald C hH lc_69.1 lc_69.2 (ce_in_vp (by decide)) d12_undo_39 ?_
      exact ce_iretE C (ce_sok aK aV B0) hH e d12_undo_40
    · have e := ce_if1 e hc16
      refine lv_bipush (v := (-5 : Int32)) hx hb d12_undo_19 (by decide) ?_
      exact ce_iretE C (ce_sok aK aV B0) hH e d12_undo_21
  · have e := ce_if1 e hc4
    refine lv_bipush (v := (-2 : Int32)) hx hb d12_undo_7 (by decide) ?_
    exact ce_iretE C (ce_sok aK aV B0) hH e d12_undo_9
abbrev b12_anew : ByteArray := prog_14_method_101_code
def y12_anew : MethodName := ⟨cn_12, "anew", "()I"⟩
theorem d12_anew_0 : decode b12_anew 0 = .ok (.aload_n 0, 1) := by decide +kernel
theorem d12_anew_1 : decode b12_anew 1 = .ok (.invokevirtual 355, 3) := by decide +kernel
theorem d12_anew_4 : decode b12_anew 4 = .ok (.ifCond .ne 6, 3) := by decide +kernel
theorem d12_anew_7 : decode b12_anew 7 = .ok (.bipush (-2), 2) := by decide +kernel
theorem d12_anew_9 : decode b12_anew 9 = .ok (.ireturn, 1) := by decide +kernel
theorem d12_anew_10 : decode b12_anew 10 = .ok (.aload_n 0, 1) := by decide +kernel
theorem d12_anew_11 : decode b12_anew 11 = .ok (.getfield 7, 3) := by decide +kernel
theorem d12_anew_14 : decode b12_anew 14 = .ok (.iconst 4, 1) := by decide +kernel
theorem d12_anew_15 : decode b12_anew 15 = .ok (.iaload, 1) := by decide +kernel
theorem d12_anew_16 : decode b12_anew 16 = .ok (.istore_n 1, 1) := by decide +kernel
theorem d12_anew_17 : decode b12_anew 17 = .ok (.iload_n 1, 1) := by decide +kernel
theorem d12_anew_18 : decode b12_anew 18 = .ok (.ifCond .le 8, 3) := by decide +kernel
theorem d12_anew_21 : decode b12_anew 21 = .ok (.aload_n 0, 1) := by decide +kernel
theorem d12_anew_22 : decode b12_anew 22 = .ok (.iconst 0, 1) := by decide +kernel
theorem d12_anew_23 : decode b12_anew 23 = .ok (.invokevirtual 381, 3) := by decide +kernel
theorem d12_anew_26 : decode b12_anew 26 = .ok (.iload_n 1, 1) := by decide +kernel
theorem d12_anew_27 : decode b12_anew 27 = .ok (.ireturn, 1) := by decide +kernel
def f12_anew (F : Nat)  (h : Hp) : Option (Int32 × Hp) :=
  Option.bind (f12_is F  h) (fun o1 =>
    if o1.1 = 0 then
      some ((-2 : Int32), o1.2)
    else
      if (o1.2 69 ((4 : Int32)).toNatClampNeg) ≤ 0 then
        some (o1.2 69 ((4 : Int32)).toNatClampNeg, o1.2)
      else
        Option.bind (f12_goesBack F (0 : Int32) o1.2) (fun o23 =>
          some (o1.2 69 ((4 : Int32)).toNatClampNeg, o23)))
set_option maxRecDepth 20000 in
theorem c12_anew (l : Launch) (D : va_G) (ad : Nat → Nat) (cA : Nat → ClassId) (aK aV : Nat → Nat) (B0 : Nat) (hA : ce_Ad ad B0) (F : Nat)   (h : Hp) (r : Int32 × Hp) (e : f12_anew F  h = some r) : ce_Ct l D ad cA B0 (ce_St aK aV B0) y12_anew b12_anew 2 (some .int) 1 22 0 0 [.ref (ad 68)] h (some (.int r.1)) r.2 := by
  refine ce_enter hA (by decide) rfl (Nat.le_of_ble_eq_true rfl) (fun p e0 s m below meth c ls C hH hl => ?_)
  have hl : lv_has ls 2 [(0, .ref (ad 68))] := hl
  have hx := C.1
  have hb := C.2.1
  have e : Option.bind _ some = some r := (congrArg (fun z => Option.bind z some) e).trans rfl
  unfold f12_anew at e
  refine lv_aload_n hx hb d12_anew_0 rfl (lv_at hl 0 rfl) ?_
  obtain ⟨o1, eo1, e⟩ := ce_bd e
  refine ce_callV (As := []) (rest := []) C (ce_sok aK aV B0) hH (c12_is l D ad cA aK aV B0 C.2.2.2.2.2.2.1 F   h o1 eo1) lo_68.1 lo_68.2.choose_spec rfl rfl mc12_is ml_12_355 mi12_is ms12_is mI_12 (n := 0) (by decide) rfl ⟨Nat.le_of_ble_eq_true rfl, Nat.le_of_ble_eq_true rfl⟩ ⟨Nat.le_of_ble_eq_true rfl, Nat.le_of_ble_eq_true rfl⟩ hl.1 rfl (Nat.le_of_ble_eq_true rfl) d12_anew_1 (fun H locs hH => ?_)
  refine W.eq (g2 := F0 m 4 ls [.int o1.1]) rfl ?_
  refine lv_if_ne (tgt := 10) hx hb d12_anew_4 (by decide) (fun hc4 => ?_) (fun hc4 => ?_)
  · have e := ce_if0 e hc4
    refine lv_aload_n hx hb d12_anew_10 rfl (lv_at hl 0 rfl) ?_
    refine gf_12_7 C hH d12_anew_11 ?_
    refine lv_iconst (v := (4 : Int32)) hx hb d12_anew_14 (by decide) ?_
    refine ce_iald C hH lc_69.1 lc_69.2 (ce_in_vp (by decide)) d12_anew_15 ?_
    refine lv_istore_n (lv' := [(1, .int (o1.2 69 ((4 : Int32)).toNatClampNeg)), (0, .ref (ad 68))]) hx hb d12_anew_16 rfl hl (by decide) rfl (fun ls hl => ?_)
    refine lv_iload_n hx hb d12_anew_17 rfl (lv_at hl 0 rfl) ?_
    refine lv_if_le (tgt := 26) hx hb d12_anew_18 (by decide) (fun hc18 => ?_) (fun hc18 => ?_)
    · have e := ce_if1 e hc18
      refine lv_iload_n hx hb d12_anew_26 rfl (lv_at hl 0 rfl) ?_
      exact ce_iretE C (ce_sok aK aV B0) hH e d12_anew_27
    · have e := ce_if0 e hc18
      refine lv_aload_n hx hb d12_anew_21 rfl (lv_at hl 1 rfl) ?_
      refine lv_iconst (v := (0 : Int32)) hx hb d12_anew_22 (by decide) ?_
      obtain ⟨o23, eo23, e⟩ := ce_bd e
      refine ce_callV (As := [.int (0 : Int32)]) (rest := []) C (ce_sok aK aV B0) hH (c12_goesBack l D ad cA aK aV B0 C.2.2.2.2.2.2.1 F (0 : Int32)  o1.2 o23 eo23) lo_68.1 lo_68.2.choose_spec rfl rfl mc12_goesBack ml_12_381 mi12_goesBack ms12_goesBack mI_12 (n := 1) (by decide) rfl ⟨Nat.le_of_ble_eq_true rfl, Nat.le_of_ble_eq_true rfl⟩ ⟨Nat.le_of_ble_eq_true rfl, Nat.le_of_ble_eq_true rfl⟩ hl.1 rfl (Nat.le_of_ble_eq_true rfl) d12_anew_23 (fun H locs hH => ?_)
      refine W.eq (g2 := F0 m 26 ls []) rfl ?_
      refine lv_iload_n hx hb d12_anew_26 rfl (lv_at hl 0 rfl) ?_
      exact ce_iretE C (ce_sok aK aV B0) hH e d12_anew_27
  · have e := ce_if1 e hc4
    refine lv_bipush (v := (-2 : Int32)) hx hb d12_anew_7 (by decide) ?_
    exact ce_iretE C (ce_sok aK aV B0) hH e d12_anew_9
end C20
