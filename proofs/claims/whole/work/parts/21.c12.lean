-- C12: functions and contracts, written by wip/whole/gen (mgen.py, walk.py, walk2.py) out of the bytecode
section C12
variable {p : Program} {l : Launch} {e0 : Env} {R : Room} {s : State} {m : MethodId} {args : Array Value} {below : List Frame} {meth : Method} {c : Code} {H : Heap} {locs : List Loc} {cells slots : Nat} {Q : State → Prop}
variable {cc : ByteArray} {pc nL : Nat} {ret : Option FieldType} {ls : Array Slot} {rest : List Value} {D : va_G} {ad : Nat → Nat} {cA : Nat → ClassId} {B0 : Nat} {X : va_W} {h : Hp} {aK aV : Nat → Nat}
abbrev b12_readsCoins : ByteArray := prog_14_method_17_code
def y12_readsCoins : MethodName := ⟨cn_12, "readsCoins", "(I)V"⟩
theorem d12_readsCoins_0 : decode b12_readsCoins 0 = .ok (.aload_n 0, 1) := by decide +kernel
theorem d12_readsCoins_1 : decode b12_readsCoins 1 = .ok (.getfield 115, 3) := by decide +kernel
theorem d12_readsCoins_4 : decode b12_readsCoins 4 = .ok (.iconst 2, 1) := by decide +kernel
theorem d12_readsCoins_5 : decode b12_readsCoins 5 = .ok (.if_icmp .ne 22, 3) := by decide +kernel
theorem d12_readsCoins_8 : decode b12_readsCoins 8 = .ok (.aload_n 0, 1) := by decide +kernel
theorem d12_readsCoins_9 : decode b12_readsCoins 9 = .ok (.getfield 102, 3) := by decide +kernel
theorem d12_readsCoins_12 : decode b12_readsCoins 12 = .ok (.aload_n 0, 1) := by decide +kernel
theorem d12_readsCoins_13 : decode b12_readsCoins 13 = .ok (.getfield 109, 3) := by decide +kernel
theorem d12_readsCoins_16 : decode b12_readsCoins 16 = .ok (.isub, 1) := by decide +kernel
theorem d12_readsCoins_17 : decode b12_readsCoins 17 = .ok (.bipush 8, 2) := by decide +kernel
theorem d12_readsCoins_19 : decode b12_readsCoins 19 = .ok (.if_icmp .le 8, 3) := by decide +kernel
theorem d12_readsCoins_22 : decode b12_readsCoins 22 = .ok (.aload_n 0, 1) := by decide +kernel
theorem d12_readsCoins_23 : decode b12_readsCoins 23 = .ok (.iconst 2, 1) := by decide +kernel
theorem d12_readsCoins_24 : decode b12_readsCoins 24 = .ok (.invokevirtual 142, 3) := by decide +kernel
theorem d12_readsCoins_27 : decode b12_readsCoins 27 = .ok (.aload_n 0, 1) := by decide +kernel
theorem d12_readsCoins_28 : decode b12_readsCoins 28 = .ok (.getfield 109, 3) := by decide +kernel
theorem d12_readsCoins_31 : decode b12_readsCoins 31 = .ok (.istore_n 2, 1) := by decide +kernel
theorem d12_readsCoins_32 : decode b12_readsCoins 32 = .ok (.iload_n 2, 1) := by decide +kernel
theorem d12_readsCoins_33 : decode b12_readsCoins 33 = .ok (.aload_n 0, 1) := by decide +kernel
theorem d12_readsCoins_34 : decode b12_readsCoins 34 = .ok (.getfield 102, 3) := by decide +kernel
theorem d12_readsCoins_37 : decode b12_readsCoins 37 = .ok (.if_icmp .ge 70, 3) := by decide +kernel
theorem d12_readsCoins_40 : decode b12_readsCoins 40 = .ok (.aload_n 0, 1) := by decide +kernel
theorem d12_readsCoins_41 : decode b12_readsCoins 41 = .ok (.getfield 115, 3) := by decide +kernel
theorem d12_readsCoins_44 : decode b12_readsCoins 44 = .ok (.iconst 2, 1) := by decide +kernel
theorem d12_readsCoins_45 : decode b12_readsCoins 45 = .ok (.if_icmp .ne 62, 3) := by decide +kernel
theorem d12_readsCoins_48 : decode b12_readsCoins 48 = .ok (.aload_n 0, 1) := by decide +kernel
theorem d12_readsCoins_49 : decode b12_readsCoins 49 = .ok (.getfield 125, 3) := by decide +kernel
theorem d12_readsCoins_52 : decode b12_readsCoins 52 = .ok (.ifCond .ne 55, 3) := by decide +kernel
theorem d12_readsCoins_55 : decode b12_readsCoins 55 = .ok (.aload_n 0, 1) := by decide +kernel
theorem d12_readsCoins_56 : decode b12_readsCoins 56 = .ok (.getfield 19, 3) := by decide +kernel
theorem d12_readsCoins_59 : decode b12_readsCoins 59 = .ok (.iload_n 2, 1) := by decide +kernel
theorem d12_readsCoins_60 : decode b12_readsCoins 60 = .ok (.iaload, 1) := by decide +kernel
theorem d12_readsCoins_61 : decode b12_readsCoins 61 = .ok (.bipush 49, 2) := by decide +kernel
theorem d12_readsCoins_63 : decode b12_readsCoins 63 = .ok (.if_icmp .le 8, 3) := by decide +kernel
theorem d12_readsCoins_66 : decode b12_readsCoins 66 = .ok (.aload_n 0, 1) := by decide +kernel
theorem d12_readsCoins_67 : decode b12_readsCoins 67 = .ok (.iconst 2, 1) := by decide +kernel
theorem d12_readsCoins_68 : decode b12_readsCoins 68 = .ok (.invokevirtual 142, 3) := by decide +kernel
theorem d12_readsCoins_71 : decode b12_readsCoins 71 = .ok (.aload_n 0, 1) := by decide +kernel
theorem d12_readsCoins_72 : decode b12_readsCoins 72 = .ok (.getfield 7, 3) := by decide +kernel
theorem d12_readsCoins_75 : decode b12_readsCoins 75 = .ok (.bipush 35, 2) := by decide +kernel
theorem d12_readsCoins_77 : decode b12_readsCoins 77 = .ok (.iload_n 1, 1) := by decide +kernel
theorem d12_readsCoins_78 : decode b12_readsCoins 78 = .ok (.iadd, 1) := by decide +kernel
theorem d12_readsCoins_79 : decode b12_readsCoins 79 = .ok (.iconst 2, 1) := by decide +kernel
theorem d12_readsCoins_80 : decode b12_readsCoins 80 = .ok (.aload_n 0, 1) := by decide +kernel
theorem d12_readsCoins_81 : decode b12_readsCoins 81 = .ok (.getfield 7, 3) := by decide +kernel
theorem d12_readsCoins_84 : decode b12_readsCoins 84 = .ok (.bipush 35, 2) := by decide +kernel
theorem d12_readsCoins_86 : decode b12_readsCoins 86 = .ok (.iload_n 1, 1) := by decide +kernel
theorem d12_readsCoins_87 : decode b12_readsCoins 87 = .ok (.iadd, 1) := by decide +kernel
theorem d12_readsCoins_88 : decode b12_readsCoins 88 = .ok (.iaload, 1) := by decide +kernel
theorem d12_readsCoins_89 : decode b12_readsCoins 89 = .ok (.imul, 1) := by decide +kernel
theorem d12_readsCoins_90 : decode b12_readsCoins 90 = .ok (.aload_n 0, 1) := by decide +kernel
theorem d12_readsCoins_91 : decode b12_readsCoins 91 = .ok (.getfield 19, 3) := by decide +kernel
theorem d12_readsCoins_94 : decode b12_readsCoins 94 = .ok (.iload_n 2, 1) := by decide +kernel
theorem d12_readsCoins_95 : decode b12_readsCoins 95 = .ok (.iaload, 1) := by decide +kernel
theorem d12_readsCoins_96 : decode b12_readsCoins 96 = .ok (.iadd, 1) := by decide +kernel
theorem d12_readsCoins_97 : decode b12_readsCoins 97 = .ok (.bipush 48, 2) := by decide +kernel
theorem d12_readsCoins_99 : decode b12_readsCoins 99 = .ok (.isub, 1) := by decide +kernel
theorem d12_readsCoins_100 : decode b12_readsCoins 100 = .ok (.iastore, 1) := by decide +kernel
theorem d12_readsCoins_101 : decode b12_readsCoins 101 = .ok (.iinc 2 1, 3) := by decide +kernel
theorem d12_readsCoins_104 : decode b12_readsCoins 104 = .ok (.goto (-72), 3) := by decide +kernel
theorem d12_readsCoins_107 : decode b12_readsCoins 107 = .ok (.aload_n 0, 1) := by decide +kernel
theorem d12_readsCoins_108 : decode b12_readsCoins 108 = .ok (.getfield 7, 3) := by decide +kernel
theorem d12_readsCoins_111 : decode b12_readsCoins 111 = .ok (.bipush 25, 2) := by decide +kernel
theorem d12_readsCoins_113 : decode b12_readsCoins 113 = .ok (.iload_n 1, 1) := by decide +kernel
theorem d12_readsCoins_114 : decode b12_readsCoins 114 = .ok (.iadd, 1) := by decide +kernel
theorem d12_readsCoins_115 : decode b12_readsCoins 115 = .ok (.aload_n 0, 1) := by decide +kernel
theorem d12_readsCoins_116 : decode b12_readsCoins 116 = .ok (.getfield 102, 3) := by decide +kernel
theorem d12_readsCoins_119 : decode b12_readsCoins 119 = .ok (.aload_n 0, 1) := by decide +kernel
theorem d12_readsCoins_120 : decode b12_readsCoins 120 = .ok (.getfield 109, 3) := by decide +kernel
theorem d12_readsCoins_123 : decode b12_readsCoins 123 = .ok (.isub, 1) := by decide +kernel
theorem d12_readsCoins_124 : decode b12_readsCoins 124 = .ok (.iastore, 1) := by decide +kernel
theorem d12_readsCoins_125 : decode b12_readsCoins 125 = .ok (.aload_n 0, 1) := by decide +kernel
theorem d12_readsCoins_126 : decode b12_readsCoins 126 = .ok (.aload_n 0, 1) := by decide +kernel
theorem d12_readsCoins_127 : decode b12_readsCoins 127 = .ok (.getfield 125, 3) := by decide +kernel
theorem d12_readsCoins_130 : decode b12_readsCoins 130 = .ok (.ifCond .ne 11, 3) := by decide +kernel
theorem d12_readsCoins_133 : decode b12_readsCoins 133 = .ok (.aload_n 0, 1) := by decide +kernel
theorem d12_readsCoins_134 : decode b12_readsCoins 134 = .ok (.getfield 115, 3) := by decide +kernel
theorem d12_readsCoins_137 : decode b12_readsCoins 137 = .ok (.iconst 2, 1) := by decide +kernel
theorem d12_readsCoins_138 : decode b12_readsCoins 138 = .ok (.if_icmp .ne 7, 3) := by decide +kernel
theorem d12_readsCoins_141 : decode b12_readsCoins 141 = .ok (.iconst 1, 1) := by decide +kernel
theorem d12_readsCoins_142 : decode b12_readsCoins 142 = .ok (.goto 4, 3) := by decide +kernel
theorem d12_readsCoins_145 : decode b12_readsCoins 145 = .ok (.iconst 0, 1) := by decide +kernel
theorem d12_readsCoins_146 : decode b12_readsCoins 146 = .ok (.invokevirtual 149, 3) := by decide +kernel
theorem d12_readsCoins_149 : decode b12_readsCoins 149 = .ok (.return_, 1) := by decide +kernel
def f12_readsCoins_b32 (F : Nat) (x1 : Int32) (x2 : Int32) (h : Hp) : Option ((Int32 × Hp) ⊕ (Hp)) :=
  if (h 68 7) ≤ x2 then
    some (.inr h)
  else
    if (h 68 9) = (2 : Int32) then
      if (h 68 11) = 0 then
        if ce_in x2 700 = true then
          if (h 72 (x2).toNatClampNeg) ≤ (49 : Int32) then
            if ce_in ((35 : Int32) + x1) 125 = true then
              if ce_in x2 700 = true then
                if ce_in ((35 : Int32) + x1) 125 = true then
                  ce_nm (hp_up h 69 (((35 : Int32) + x1)).toNatClampNeg ((((2 : Int32) * (h 69 (((35 : Int32) + x1)).toNatClampNeg)) + (h 72 (x2).toNatClampNeg)) - (48 : Int32))) (fun h_100 =>
                    some (.inl (x2 + (1 : Int32), h_100)))
                else none
              else none
            else none
          else
            Option.bind (f12_faults F (2 : Int32) h) (fun o68 =>
              if ce_in ((35 : Int32) + x1) 125 = true then
                if ce_in x2 700 = true then
                  if ce_in ((35 : Int32) + x1) 125 = true then
                    ce_nm (hp_up o68 69 (((35 : Int32) + x1)).toNatClampNeg ((((2 : Int32) * (o68 69 (((35 : Int32) + x1)).toNatClampNeg)) + (o68 72 (x2).toNatClampNeg)) - (48 : Int32))) (fun h_100 =>
                      some (.inl (x2 + (1 : Int32), h_100)))
                  else none
                else none
              else none)
        else none
      else
        some (.inr h)
    else
      some (.inr h)
set_option maxRecDepth 20000 in
theorem l12_readsCoins_32 (C : ce_Cx p s m args c meth b12_readsCoins 3 none cn_12 D ad cA B0 (ce_St aK aV B0)) (F : Nat) (x1 : Int32)  (r : Hp) (g : (Hp) → Option (Hp)) (hx : ∀  (h : Hp) (H : Heap) (locs : List Loc) (ls : Array Slot), ce_H D ad cA B0 [] s h H locs → lv_has ls 3 [(0, .ref (ad 68)), (1, .int x1)] → g h = some r → W p l e0 { frames := 4, cells := 0, slots := 0, locals := 88 } s m args below meth c H locs 0 0 (MQ below (ce_Q D ad cA B0 (ce_St aK aV B0) none r) args s 0 0 (fun q => B0 ≤ q)) (F0 m 107 ls [])) : ∀ (n : Nat) (x2 : Int32) (h : Hp) (H : Heap) (locs : List Loc) (ls : Array Slot), ce_H D ad cA B0 [] s h H locs → lv_has ls 3 [(0, .ref (ad 68)), (1, .int x1), (2, .int x2)] → Option.bind (ce_it (fun (st : Int32 × Hp) => f12_readsCoins_b32 F x1 st.1 st.2) n (x2, h)) g = some r → W p l e0 { frames := 4, cells := 0, slots := 0, locals := 88 } s m args below meth c H locs 0 0 (MQ below (ce_Q D ad cA B0 (ce_St aK aV B0) none r) args s 0 0 (fun q => B0 ≤ q)) (F0 m 32 ls []) := by
  intro n
  induction n with
  | zero =>
    intro x2 h H locs ls hH hl e
    exact absurd e (fun z => by cases z)
  | succ n ih =>
    intro x2 h H locs ls hH hl e
    have hx9 := C.1
    have hb := C.2.1
    have e : Option.bind (f12_readsCoins_b32 F x1 x2 h) _ = some r := ce_it_bd e
    unfold f12_readsCoins_b32 at e
    refine lv_iload_n hx9 hb d12_readsCoins_32 rfl (lv_at hl 2 rfl) ?_
    refine lv_aload_n hx9 hb d12_readsCoins_33 rfl (lv_at hl 0 rfl) ?_
    refine gf_12_102 C hH d12_readsCoins_34 ?_
    refine lv_icmp_ge (tgt := 107) hx9 hb d12_readsCoins_37 (by decide) (fun hc37 => ?_) (fun hc37 => ?_)
    · have e := ce_if1 e hc37
      exact hx  h _ _ _ hH (lv_sub hl [0, 1] rfl) e
    · have e := ce_if0 e hc37
      refine lv_aload_n hx9 hb d12_readsCoins_40 rfl (lv_at hl 0 rfl) ?_
      refine gf_12_115 C hH d12_readsCoins_41 ?_
      refine lv_iconst (v := (2 : Int32)) hx9 hb d12_readsCoins_44 (by decide) ?_
      refine lv_icmp_ne (tgt := 107) hx9 hb d12_readsCoins_45 (by decide) (fun hc45 => ?_) (fun hc45 => ?_)
      · have e := ce_if0 e hc45
        exact hx  h _ _ _ hH (lv_sub hl [0, 1] rfl) e
      · have e := ce_if1 e hc45
        refine lv_aload_n hx9 hb d12_readsCoins_48 rfl (lv_at hl 0 rfl) ?_
        refine gf_12_125 C hH d12_readsCoins_49 ?_
        refine lv_if_ne (tgt := 107) hx9 hb d12_readsCoins_52 (by decide) (fun hc52 => ?_) (fun hc52 => ?_)
        · have e := ce_if0 e hc52
          exact hx  h _ _ _ hH (lv_sub hl [0, 1] rfl) e
        · have e := ce_if1 e hc52
          refine lv_aload_n hx9 hb d12_readsCoins_55 rfl (lv_at hl 0 rfl) ?_
          refine gf_12_19 C hH d12_readsCoins_56 ?_
          refine lv_iload_n hx9 hb d12_readsCoins_59 rfl (lv_at hl 2 rfl) ?_
          obtain ⟨hi60, e⟩ := ce_gd e
          refine ce_iald C hH lc_72.1 lc_72.2 (ce_in_vp hi60) d12_readsCoins_60 ?_
          refine lv_bipush (v := (49 : Int32)) hx9 hb d12_readsCoins_61 (by decide) ?_
          refine lv_icmp_le (tgt := 71) hx9 hb d12_readsCoins_63 (by decide) (fun hc63 => ?_) (fun hc63 => ?_)
          · have e := ce_if1 e hc63
            refine lv_aload_n hx9 hb d12_readsCoins_71 rfl (lv_at hl 0 rfl) ?_
            refine gf_12_7 C hH d12_readsCoins_72 ?_
            refine lv_bipush (v := (35 : Int32)) hx9 hb d12_readsCoins_75 (by decide) ?_
            refine lv_iload_n hx9 hb d12_readsCoins_77 rfl (lv_at hl 1 rfl) ?_
            refine lv_iadd hx9 hb d12_readsCoins_78 ?_
            refine lv_iconst (v := (2 : Int32)) hx9 hb d12_readsCoins_79 (by decide) ?_
            refine lv_aload_n hx9 hb d12_readsCoins_80 rfl (lv_at hl 0 rfl) ?_
            refine gf_12_7 C hH d12_readsCoins_81 ?_
            refine lv_bipush (v := (35 : Int32)) hx9 hb d12_readsCoins_84 (by decide) ?_
            refine lv_iload_n hx9 hb d12_readsCoins_86 rfl (lv_at hl 1 rfl) ?_
            refine lv_iadd hx9 hb d12_readsCoins_87 ?_
            obtain ⟨hi88, e⟩ := ce_gd e
            refine ce_iald C hH lc_69.1 lc_69.2 (ce_in_vp hi88) d12_readsCoins_88 ?_
            refine lv_imul hx9 hb d12_readsCoins_89 ?_
            refine lv_aload_n hx9 hb d12_readsCoins_90 rfl (lv_at hl 0 rfl) ?_
            refine gf_12_19 C hH d12_readsCoins_91 ?_
            refine lv_iload_n hx9 hb d12_readsCoins_94 rfl (lv_at hl 2 rfl) ?_
            obtain ⟨hi95, e⟩ := ce_gd e
            refine ce_iald C hH lc_72.1 lc_72.2 (ce_in_vp hi95) d12_readsCoins_95 ?_
            refine lv_iadd hx9 hb d12_readsCoins_96 ?_
            refine lv_bipush (v := (48 : Int32)) hx9 hb d12_readsCoins_97 (by decide) ?_
            refine lv_isub hx9 hb d12_readsCoins_99 ?_
            obtain ⟨hi100, e⟩ := ce_gd e
            refine ce_iast C hH lc_69.1 lc_69.2 (ce_in_vp hi100) d12_readsCoins_100 (fun H locs hH => ?_)
            obtain ⟨h_100, eh_100, e⟩ := ce_nmE e
            rw [← eh_100] at hH
            refine lv_iinc (v := x2 + (1 : Int32)) (lv' := [(2, .int (x2 + (1 : Int32))), (0, .ref (ad 68)), (1, .int x1)]) hx9 hb d12_readsCoins_101 hl (k := 2) rfl rfl (by decide) rfl (fun ls hl => ?_)
            refine lv_goto (tgt := 32) hx9 hb d12_readsCoins_104 (by decide) ?_
            exact ih (x2 + (1 : Int32)) h_100 _ _ _ hH (lv_sub hl [1, 2, 0] rfl) e
          · have e := ce_if0 e hc63
            refine lv_aload_n hx9 hb d12_readsCoins_66 rfl (lv_at hl 0 rfl) ?_
            refine lv_iconst (v := (2 : Int32)) hx9 hb d12_readsCoins_67 (by decide) ?_
            obtain ⟨o68, eo68, e⟩ := ce_bd e
            refine ce_callV (As := [.int (2 : Int32)]) (rest := []) C (ce_sok aK aV B0) hH (c12_faults l D ad cA aK aV B0 C.2.2.2.2.2.2.1 F (2 : Int32)  h o68 eo68) lo_68.1 lo_68.2.choose_spec rfl rfl mc12_faults ml_12_142 mi12_faults ms12_faults mI_12 (n := 1) (by decide) rfl ⟨Nat.le_of_ble_eq_true rfl, Nat.le_of_ble_eq_true rfl⟩ ⟨Nat.le_of_ble_eq_true rfl, Nat.le_of_ble_eq_true rfl⟩ hl.1 rfl (Nat.le_of_ble_eq_true rfl) d12_readsCoins_68 (fun H locs hH => ?_)
            refine W.eq (g2 := F0 m 71 ls []) rfl ?_
            refine lv_aload_n hx9 hb d12_readsCoins_71 rfl (lv_at hl 0 rfl) ?_
            refine gf_12_7 C hH d12_readsCoins_72 ?_
            refine lv_bipush (v := (35 : Int32)) hx9 hb d12_readsCoins_75 (by decide) ?_
            refine lv_iload_n hx9 hb d12_readsCoins_77 rfl (lv_at hl 1 rfl) ?_
            refine lv_iadd hx9 hb d12_readsCoins_78 ?_
            refine lv_iconst (v := (2 : Int32)) hx9 hb d12_readsCoins_79 (by decide) ?_
            refine lv_aload_n hx9 hb d12_readsCoins_80 rfl (lv_at hl 0 rfl) ?_
            refine gf_12_7 C hH d12_readsCoins_81 ?_
            refine lv_bipush (v := (35 : Int32)) hx9 hb d12_readsCoins_84 (by decide) ?_
            refine lv_iload_n hx9 hb d12_readsCoins_86 rfl (lv_at hl 1 rfl) ?_
            refine lv_iadd hx9 hb d12_readsCoins_87 ?_
            obtain ⟨hi88, e⟩ := ce_gd e
            refine ce_iald C hH lc_69.1 lc_69.2 (ce_in_vp hi88) d12_readsCoins_88 ?_
            refine lv_imul hx9 hb d12_readsCoins_89 ?_
            refine lv_aload_n hx9 hb d12_readsCoins_90 rfl (lv_at hl 0 rfl) ?_
            refine gf_12_19 C hH d12_readsCoins_91 ?_
            refine lv_iload_n hx9 hb d12_readsCoins_94 rfl (lv_at hl 2 rfl) ?_
            obtain ⟨hi95, e⟩ := ce_gd e
            refine ce_iald C hH lc_72.1 lc_72.2 (ce_in_vp hi95) d12_readsCoins_95 ?_
            refine lv_iadd hx9 hb d12_readsCoins_96 ?_
            refine lv_bipush (v := (48 : Int32)) hx9 hb d12_readsCoins_97 (by decide) ?_
            refine lv_isub hx9 hb d12_readsCoins_99 ?_
            obtain ⟨hi100, e⟩ := ce_gd e
            refine ce_iast C hH lc_69.1 lc_69.2 (ce_in_vp hi100) d12_readsCoins_100 (fun H locs hH => ?_)
            obtain ⟨h_100, eh_100, e⟩ := ce_nmE e
            rw [← eh_100] at hH
            refine lv_iinc (v := x2 + (1 : Int32)) (lv' := [(2, .int (x2 + (1 : Int32))), (0, .ref (ad 68)), (1, .int x1)]) hx9 hb d12_readsCoins_101 hl (k := 2) rfl rfl (by decide) rfl (fun ls hl => ?_)
            refine lv_goto (tgt := 32) hx9 hb d12_readsCoins_104 (by decide) ?_
            exact ih (x2 + (1 : Int32)) h_100 _ _ _ hH (lv_sub hl [1, 2, 0] rfl) e
def f12_readsCoins_j27 (F : Nat) (x1 : Int32) (h : Hp) : Option (Hp) :=
  Option.bind (ce_it (fun (st : Int32 × Hp) => f12_readsCoins_b32 F x1 st.1 st.2) F (h 68 8, h)) (fun o32 =>
    if ce_in ((25 : Int32) + x1) 125 = true then
      ce_nm (hp_up o32 69 (((25 : Int32) + x1)).toNatClampNeg ((o32 68 7) - (o32 68 8))) (fun h_124 =>
        if (h_124 68 11) = 0 then
          if (h_124 68 9) = (2 : Int32) then
            Option.bind (f12_passes F (1 : Int32) h_124) (fun o146 =>
              some o146)
          else
            Option.bind (f12_passes F (0 : Int32) h_124) (fun o146 =>
              some o146)
        else
          Option.bind (f12_passes F (1 : Int32) h_124) (fun o146 =>
            some o146))
    else none)
set_option maxRecDepth 20000 in
theorem j12_readsCoins_27 (C : ce_Cx p s m args c meth b12_readsCoins 3 none cn_12 D ad cA B0 (ce_St aK aV B0)) (F : Nat) (x1 : Int32)  (r : Hp) (h : Hp) (H : Heap) (locs : List Loc) (ls : Array Slot) (hH : ce_H D ad cA B0 [] s h H locs) (hl : lv_has ls 3 [(0, .ref (ad 68)), (1, .int x1)]) (e : Option.bind (f12_readsCoins_j27 F x1 h) some = some r) : W p l e0 { frames := 4, cells := 0, slots := 0, locals := 88 } s m args below meth c H locs 0 0 (MQ below (ce_Q D ad cA B0 (ce_St aK aV B0) none r) args s 0 0 (fun q => B0 ≤ q)) (F0 m 27 ls []) := by
  have hx9 := C.1
  have hb := C.2.1
  unfold f12_readsCoins_j27 at e
  refine lv_aload_n hx9 hb d12_readsCoins_27 rfl (lv_at hl 0 rfl) ?_
  refine gf_12_109 C hH d12_readsCoins_28 ?_
  refine lv_istore_n (lv' := [(2, .int (h 68 8)), (0, .ref (ad 68)), (1, .int x1)]) hx9 hb d12_readsCoins_31 rfl hl (by decide) rfl (fun ls hl => ?_)
  refine l12_readsCoins_32 C F x1  r _ (fun  h_32 H locs ls hH hl e => ?_) F (h 68 8) h _ _ _ hH (lv_sub hl [1, 2, 0] rfl) (ce_as e)
  try dsimp only at e
  refine lv_aload_n hx9 hb d12_readsCoins_107 rfl (lv_at hl 0 rfl) ?_
  refine gf_12_7 C hH d12_readsCoins_108 ?_
  refine lv_bipush (v := (25 : Int32)) hx9 hb d12_readsCoins_111 (by decide) ?_
  refine lv_iload_n hx9 hb d12_readsCoins_113 rfl (lv_at hl 1 rfl) ?_
  refine lv_iadd hx9 hb d12_readsCoins_114 ?_
  refine lv_aload_n hx9 hb d12_readsCoins_115 rfl (lv_at hl 0 rfl) ?_
  refine gf_12_102 C hH d12_readsCoins_116 ?_
  refine lv_aload_n hx9 hb d12_readsCoins_119 rfl (lv_at hl 0 rfl) ?_
  refine gf_12_109 C hH d12_readsCoins_120 ?_
  refine lv_isub hx9 hb d12_readsCoins_123 ?_
  obtain ⟨hi124, e⟩ := ce_gd e
  refine ce_iast C hH lc_69.1 lc_69.2 (ce_in_vp hi124) d12_readsCoins_124 (fun H locs hH => ?_)
  obtain ⟨h_124, eh_124, e⟩ := ce_nmE e
  rw [← eh_124] at hH
  refine lv_aload_n hx9 hb d12_readsCoins_125 rfl (lv_at hl 0 rfl) ?_
  refine lv_aload_n hx9 hb d12_readsCoins_126 rfl (lv_at hl 0 rfl) ?_
  refine gf_12_125 C hH d12_readsCoins_127 ?_
  refine lv_if_ne (tgt := 141) hx9 hb d12_readsCoins_130 (by decide) (fun hc130 => ?_) (fun hc130 => ?_)
  · have e := ce_if0 e hc130
    refine lv_iconst (v := (1 : Int32)) hx9 hb d12_readsCoins_141 (by decide) ?_
    refine lv_goto (tgt := 146) hx9 hb d12_readsCoins_142 (by decide) ?_
    obtain ⟨o146, eo146, e⟩ := ce_bd e
    refine ce_callV (As := [.int (1 : Int32)]) (rest := []) C (ce_sok aK aV B0) hH (c12_passes l D ad cA aK aV B0 C.2.2.2.2.2.2.1 F (1 : Int32)  h_124 o146 eo146) lo_68.1 lo_68.2.choose_spec rfl rfl mc12_passes ml_12_149 mi12_passes ms12_passes mI_12 (n := 1) (by decide) rfl ⟨Nat.le_of_ble_eq_true rfl, Nat.le_of_ble_eq_true rfl⟩ ⟨Nat.le_of_ble_eq_true rfl, Nat.le_of_ble_eq_true rfl⟩ hl.1 rfl (Nat.le_of_ble_eq_true rfl) d12_readsCoins_146 (fun H locs hH => ?_)
    refine W.eq (g2 := F0 m 149 ls []) rfl ?_
    exact ce_vret C (ce_sok aK aV B0) hH (Option.some.inj e) d12_readsCoins_149
  · have e := ce_if1 e hc130
    refine lv_aload_n hx9 hb d12_readsCoins_133 rfl (lv_at hl 0 rfl) ?_
    refine gf_12_115 C hH d12_readsCoins_134 ?_
    refine lv_iconst (v := (2 : Int32)) hx9 hb d12_readsCoins_137 (by decide) ?_
    refine lv_icmp_ne (tgt := 145) hx9 hb d12_readsCoins_138 (by decide) (fun hc138 => ?_) (fun hc138 => ?_)
    · have e := ce_if0 e hc138
      refine lv_iconst (v := (0 : Int32)) hx9 hb d12_readsCoins_145 (by decide) ?_
      obtain ⟨o146, eo146, e⟩ := ce_bd e
      refine ce_callV (As := [.int (0 : Int32)]) (rest := []) C (ce_sok aK aV B0) hH (c12_passes l D ad cA aK aV B0 C.2.2.2.2.2.2.1 F (0 : Int32)  h_124 o146 eo146) lo_68.1 lo_68.2.choose_spec rfl rfl mc12_passes ml_12_149 mi12_passes ms12_passes mI_12 (n := 1) (by decide) rfl ⟨Nat.le_of_ble_eq_true rfl, Nat.le_of_ble_eq_true rfl⟩ ⟨Nat.le_of_ble_eq_true rfl, Nat.le_of_ble_eq_true rfl⟩ hl.1 rfl (Nat.le_of_ble_eq_true rfl) d12_readsCoins_146 (fun H locs hH => ?_)
      refine W.eq (g2 := F0 m 149 ls []) rfl ?_
      exact ce_vret C (ce_sok aK aV B0) hH (Option.some.inj e) d12_readsCoins_149
    · have e := ce_if1 e hc138
      refine lv_iconst (v := (1 : Int32)) hx9 hb d12_readsCoins_141 (by decide) ?_
      refine lv_goto (tgt := 146) hx9 hb d12_readsCoins_142 (by decide) ?_
      obtain ⟨o146, eo146, e⟩ := ce_bd e
      refine ce_callV (As := [.int (1 : Int32)]) (rest := []) C (ce_sok aK aV B0) hH (c12_passes l D ad cA aK aV B0 C.2.2.2.2.2.2.1 F (1 : Int32)  h_124 o146 eo146) lo_68.1 lo_68.2.choose_spec rfl rfl mc12_passes ml_12_149 mi12_passes ms12_passes mI_12 (n := 1) (by decide) rfl ⟨Nat.le_of_ble_eq_true rfl, Nat.le_of_ble_eq_true rfl⟩ ⟨Nat.le_of_ble_eq_true rfl, Nat.le_of_ble_eq_true rfl⟩ hl.1 rfl (Nat.le_of_ble_eq_true rfl) d12_readsCoins_146 (fun H locs hH => ?_)
      refine W.eq (g2 := F0 m 149 ls []) rfl ?_
      exact ce_vret C (ce_sok aK aV B0) hH (Option.some.inj e) d12_readsCoins_149
def f12_readsCoins (F : Nat) (x1 : Int32) (h : Hp) : Option (Hp) :=
  if (h 68 9) = (2 : Int32) then
    if ((h 68 7) - (h 68 8)) ≤ (8 : Int32) then
      f12_readsCoins_j27 F x1 h
    else
      Option.bind (f12_faults F (2 : Int32) h) (fun o24 =>
        f12_readsCoins_j27 F x1 o24)
  else
    f12_readsCoins_j27 F x1 h
set_option maxRecDepth 20000 in
theorem c12_readsCoins (l : Launch) (D : va_G) (ad : Nat → Nat) (cA : Nat → ClassId) (aK aV : Nat → Nat) (B0 : Nat) (hA : ce_Ad ad B0) (F : Nat) (x1 : Int32)  (h : Hp) (r : Hp) (e : f12_readsCoins F x1 h = some r) : ce_Ct l D ad cA B0 (ce_St aK aV B0) y12_readsCoins b12_readsCoins 3 none 4 88 0 0 [.ref (ad 68), .int x1] h none r := by
  refine ce_enter hA (by decide) rfl (Nat.le_of_ble_eq_true rfl) (fun p e0 s m below meth c ls C hH hl => ?_)
  have hl : lv_has ls 3 [(0, .ref (ad 68)), (1, .int x1)] := hl
  have hx := C.1
  have hb := C.2.1
  have e : Option.bind _ some = some r := (congrArg (fun z => Option.bind z some) e).trans rfl
  unfold f12_readsCoins at e
  refine lv_aload_n hx hb d12_readsCoins_0 rfl (lv_at hl 0 rfl) ?_
  refine gf_12_115 C hH d12_readsCoins_1 ?_
  refine lv_iconst (v := (2 : Int32)) hx hb d12_readsCoins_4 (by decide) ?_
  refine lv_icmp_ne (tgt := 27) hx hb d12_readsCoins_5 (by decide) (fun hc5 => ?_) (fun hc5 => ?_)
  · have e := ce_if0 e hc5
    exact j12_readsCoins_27 C F x1  r h _ _ _ hH (lv_sub hl [0, 1] rfl) e
  · have e := ce_if1 e hc5
    refine lv_aload_n hx hb d12_readsCoins_8 rfl (lv_at hl 0 rfl) ?_
    refine gf_12_102 C hH d12_readsCoins_9 ?_
    refine lv_aload_n hx hb d12_readsCoins_12 rfl (lv_at hl 0 rfl) ?_
    refine gf_12_109 C hH d12_readsCoins_13 ?_
    refine lv_isub hx hb d12_readsCoins_16 ?_
    refine lv_bipush (v := (8 : Int32)) hx hb d12_readsCoins_17 (by decide) ?_
    refine lv_icmp_le (tgt := 27) hx hb d12_readsCoins_19 (by decide) (fun hc19 => ?_) (fun hc19 => ?_)
    · have e := ce_if1 e hc19
      exact j12_readsCoins_27 C F x1  r h _ _ _ hH (lv_sub hl [0, 1] rfl) e
    · have e := ce_if0 e hc19
      refine lv_aload_n hx hb d12_readsCoins_22 rfl (lv_at hl 0 rfl) ?_
      refine lv_iconst (v := (2 : Int32)) hx hb d12_readsCoins_23 (by decide) ?_
      obtain ⟨o24, eo24, e⟩ := ce_bd e
      refine ce_callV (As := [.int (2 : Int32)]) (rest := []) C (ce_sok aK aV B0) hH (c12_faults l D ad cA aK aV B0 C.2.2.2.2.2.2.1 F (2 : Int32)  h o24 eo24) lo_68.1 lo_68.2.choose_spec rfl rfl mc12_faults ml_12_142 mi12_faults ms12_faults mI_12 (n := 1) (by decide) rfl ⟨Nat.le_of_ble_eq_true rfl, Nat.le_of_ble_eq_true rfl⟩ ⟨Nat.le_of_ble_eq_true rfl, Nat.le_of_ble_eq_true rfl⟩ hl.1 rfl (Nat.le_of_ble_eq_true rfl) d12_readsCoins_24 (fun H locs hH => ?_)
      refine W.eq (g2 := F0 m 27 ls []) rfl ?_
      exact j12_readsCoins_27 C F x1  r o24 _ _ _ hH (lv_sub hl [0, 1] rfl) e
abbrev b12_readsNode : ByteArray := prog_14_method_16_code
def y12_readsNode : MethodName := ⟨cn_12, "readsNode", "()V"⟩
theorem d12_readsNode_0 : decode b12_readsNode 0 = .ok (.aload_n 0, 1) := by decide +kernel
theorem d12_readsNode_1 : decode b12_readsNode 1 = .ok (.getfield 7, 3) := by decide +kernel
theorem d12_readsNode_4 : decode b12_readsNode 4 = .ok (.iconst 2, 1) := by decide +kernel
theorem d12_readsNode_5 : decode b12_readsNode 5 = .ok (.iaload, 1) := by decide +kernel
theorem d12_readsNode_6 : decode b12_readsNode 6 = .ok (.bipush 10, 2) := by decide +kernel
theorem d12_readsNode_8 : decode b12_readsNode 8 = .ok (.if_icmp .ne 8, 3) := by decide +kernel
theorem d12_readsNode_11 : decode b12_readsNode 11 = .ok (.aload_n 0, 1) := by decide +kernel
theorem d12_readsNode_12 : decode b12_readsNode 12 = .ok (.iconst 3, 1) := by decide +kernel
theorem d12_readsNode_13 : decode b12_readsNode 13 = .ok (.invokevirtual 142, 3) := by decide +kernel
theorem d12_readsNode_16 : decode b12_readsNode 16 = .ok (.aload_n 0, 1) := by decide +kernel
theorem d12_readsNode_17 : decode b12_readsNode 17 = .ok (.iconst 1, 1) := by decide +kernel
theorem d12_readsNode_18 : decode b12_readsNode 18 = .ok (.invokevirtual 149, 3) := by decide +kernel
theorem d12_readsNode_21 : decode b12_readsNode 21 = .ok (.aload_n 0, 1) := by decide +kernel
theorem d12_readsNode_22 : decode b12_readsNode 22 = .ok (.getfield 125, 3) := by decide +kernel
theorem d12_readsNode_25 : decode b12_readsNode 25 = .ok (.ifCond .eq 7, 3) := by decide +kernel
theorem d12_readsNode_28 : decode b12_readsNode 28 = .ok (.iconst 0, 1) := by decide +kernel
theorem d12_readsNode_29 : decode b12_readsNode 29 = .ok (.goto 9, 3) := by decide +kernel
theorem d12_readsNode_32 : decode b12_readsNode 32 = .ok (.aload_n 0, 1) := by decide +kernel
theorem d12_readsNode_33 : decode b12_readsNode 33 = .ok (.getfield 7, 3) := by decide +kernel
theorem d12_readsNode_36 : decode b12_readsNode 36 = .ok (.iconst 2, 1) := by decide +kernel
theorem d12_readsNode_37 : decode b12_readsNode 37 = .ok (.iaload, 1) := by decide +kernel
theorem d12_readsNode_38 : decode b12_readsNode 38 = .ok (.istore_n 1, 1) := by decide +kernel
theorem d12_readsNode_39 : decode b12_readsNode 39 = .ok (.aload_n 0, 1) := by decide +kernel
theorem d12_readsNode_40 : decode b12_readsNode 40 = .ok (.getfield 125, 3) := by decide +kernel
theorem d12_readsNode_43 : decode b12_readsNode 43 = .ok (.ifCond .ne 45, 3) := by decide +kernel
theorem d12_readsNode_46 : decode b12_readsNode 46 = .ok (.aload_n 0, 1) := by decide +kernel
theorem d12_readsNode_47 : decode b12_readsNode 47 = .ok (.getfield 115, 3) := by decide +kernel
theorem d12_readsNode_50 : decode b12_readsNode 50 = .ok (.iconst 1, 1) := by decide +kernel
theorem d12_readsNode_51 : decode b12_readsNode 51 = .ok (.if_icmp .ne 37, 3) := by decide +kernel
theorem d12_readsNode_54 : decode b12_readsNode 54 = .ok (.aload_n 0, 1) := by decide +kernel
theorem d12_readsNode_55 : decode b12_readsNode 55 = .ok (.getfield 102, 3) := by decide +kernel
theorem d12_readsNode_58 : decode b12_readsNode 58 = .ok (.aload_n 0, 1) := by decide +kernel
theorem d12_readsNode_59 : decode b12_readsNode 59 = .ok (.getfield 109, 3) := by decide +kernel
theorem d12_readsNode_62 : decode b12_readsNode 62 = .ok (.isub, 1) := by decide +kernel
theorem d12_readsNode_63 : decode b12_readsNode 63 = .ok (.bipush 6, 2) := by decide +kernel
theorem d12_readsNode_65 : decode b12_readsNode 65 = .ok (.if_icmp .gt 18, 3) := by decide +kernel
theorem d12_readsNode_68 : decode b12_readsNode 68 = .ok (.aload_n 0, 1) := by decide +kernel
theorem d12_readsNode_69 : decode b12_readsNode 69 = .ok (.invokevirtual 177, 3) := by decide +kernel
theorem d12_readsNode_72 : decode b12_readsNode 72 = .ok (.ifCond .ne 11, 3) := by decide +kernel
theorem d12_readsNode_75 : decode b12_readsNode 75 = .ok (.aload_n 0, 1) := by decide +kernel
theorem d12_readsNode_76 : decode b12_readsNode 76 = .ok (.invokevirtual 181, 3) := by decide +kernel
theorem d12_readsNode_79 : decode b12_readsNode 79 = .ok (.iconst (-1), 1) := by decide +kernel
theorem d12_readsNode_80 : decode b12_readsNode 80 = .ok (.if_icmp .eq 8, 3) := by decide +kernel
theorem d12_readsNode_83 : decode b12_readsNode 83 = .ok (.aload_n 0, 1) := by decide +kernel
theorem d12_readsNode_84 : decode b12_readsNode 84 = .ok (.iconst 2, 1) := by decide +kernel
theorem d12_readsNode_85 : decode b12_readsNode 85 = .ok (.invokevirtual 142, 3) := by decide +kernel
theorem d12_readsNode_88 : decode b12_readsNode 88 = .ok (.aload_n 0, 1) := by decide +kernel
theorem d12_readsNode_89 : decode b12_readsNode 89 = .ok (.getfield 125, 3) := by decide +kernel
theorem d12_readsNode_92 : decode b12_readsNode 92 = .ok (.ifCond .ne 28, 3) := by decide +kernel
theorem d12_readsNode_95 : decode b12_readsNode 95 = .ok (.aload_n 0, 1) := by decide +kernel
theorem d12_readsNode_96 : decode b12_readsNode 96 = .ok (.getfield 26, 3) := by decide +kernel
theorem d12_readsNode_99 : decode b12_readsNode 99 = .ok (.iload_n 1, 1) := by decide +kernel
theorem d12_readsNode_100 : decode b12_readsNode 100 = .ok (.aload_n 0, 1) := by decide +kernel
theorem d12_readsNode_101 : decode b12_readsNode 101 = .ok (.getfield 109, 3) := by decide +kernel
theorem d12_readsNode_104 : decode b12_readsNode 104 = .ok (.iastore, 1) := by decide +kernel
theorem d12_readsNode_105 : decode b12_readsNode 105 = .ok (.aload_n 0, 1) := by decide +kernel
theorem d12_readsNode_106 : decode b12_readsNode 106 = .ok (.getfield 29, 3) := by decide +kernel
theorem d12_readsNode_109 : decode b12_readsNode 109 = .ok (.iload_n 1, 1) := by decide +kernel
theorem d12_readsNode_110 : decode b12_readsNode 110 = .ok (.aload_n 0, 1) := by decide +kernel
theorem d12_readsNode_111 : decode b12_readsNode 111 = .ok (.getfield 102, 3) := by decide +kernel
theorem d12_readsNode_114 : decode b12_readsNode 114 = .ok (.aload_n 0, 1) := by decide +kernel
theorem d12_readsNode_115 : decode b12_readsNode 115 = .ok (.getfield 109, 3) := by decide +kernel
theorem d12_readsNode_118 : decode b12_readsNode 118 = .ok (.isub, 1) := by decide +kernel
theorem d12_readsNode_119 : decode b12_readsNode 119 = .ok (.iastore, 1) := by decide +kernel
theorem d12_readsNode_120 : decode b12_readsNode 120 = .ok (.aload_n 0, 1) := by decide +kernel
theorem d12_readsNode_121 : decode b12_readsNode 121 = .ok (.aload_n 0, 1) := by decide +kernel
theorem d12_readsNode_122 : decode b12_readsNode 122 = .ok (.getfield 125, 3) := by decide +kernel
theorem d12_readsNode_125 : decode b12_readsNode 125 = .ok (.ifCond .ne 11, 3) := by decide +kernel
theorem d12_readsNode_128 : decode b12_readsNode 128 = .ok (.aload_n 0, 1) := by decide +kernel
theorem d12_readsNode_129 : decode b12_readsNode 129 = .ok (.getfield 115, 3) := by decide +kernel
theorem d12_readsNode_132 : decode b12_readsNode 132 = .ok (.iconst 1, 1) := by decide +kernel
theorem d12_readsNode_133 : decode b12_readsNode 133 = .ok (.if_icmp .ne 7, 3) := by decide +kernel
theorem d12_readsNode_136 : decode b12_readsNode 136 = .ok (.iconst 1, 1) := by decide +kernel
theorem d12_readsNode_137 : decode b12_readsNode 137 = .ok (.goto 4, 3) := by decide +kernel
theorem d12_readsNode_140 : decode b12_readsNode 140 = .ok (.iconst 0, 1) := by decide +kernel
theorem d12_readsNode_141 : decode b12_readsNode 141 = .ok (.invokevirtual 149, 3) := by decide +kernel
theorem d12_readsNode_144 : decode b12_readsNode 144 = .ok (.aload_n 0, 1) := by decide +kernel
theorem d12_readsNode_145 : decode b12_readsNode 145 = .ok (.getfield 7, 3) := by decide +kernel
theorem d12_readsNode_148 : decode b12_readsNode 148 = .ok (.iconst 5, 1) := by decide +kernel
theorem d12_readsNode_149 : decode b12_readsNode 149 = .ok (.iload_n 1, 1) := by decide +kernel
theorem d12_readsNode_150 : decode b12_readsNode 150 = .ok (.iadd, 1) := by decide +kernel
theorem d12_readsNode_151 : decode b12_readsNode 151 = .ok (.aload_n 0, 1) := by decide +kernel
theorem d12_readsNode_152 : decode b12_readsNode 152 = .ok (.ldc 184, 2) := by decide +kernel
theorem d12_readsNode_154 : decode b12_readsNode 154 = .ok (.iconst 1, 1) := by decide +kernel
theorem d12_readsNode_155 : decode b12_readsNode 155 = .ok (.iconst 4, 1) := by decide +kernel
theorem d12_readsNode_156 : decode b12_readsNode 156 = .ok (.invokevirtual 171, 3) := by decide +kernel
theorem d12_readsNode_159 : decode b12_readsNode 159 = .ok (.iastore, 1) := by decide +kernel
theorem d12_readsNode_160 : decode b12_readsNode 160 = .ok (.aload_n 0, 1) := by decide +kernel
theorem d12_readsNode_161 : decode b12_readsNode 161 = .ok (.getfield 125, 3) := by decide +kernel
theorem d12_readsNode_164 : decode b12_readsNode 164 = .ok (.ifCond .ne 26, 3) := by decide +kernel
theorem d12_readsNode_167 : decode b12_readsNode 167 = .ok (.aload_n 0, 1) := by decide +kernel
theorem d12_readsNode_168 : decode b12_readsNode 168 = .ok (.ldc 165, 2) := by decide +kernel
theorem d12_readsNode_170 : decode b12_readsNode 170 = .ok (.invokevirtual 153, 3) := by decide +kernel
theorem d12_readsNode_173 : decode b12_readsNode 173 = .ok (.ifCond .eq 17, 3) := by decide +kernel
theorem d12_readsNode_176 : decode b12_readsNode 176 = .ok (.aload_n 0, 1) := by decide +kernel
theorem d12_readsNode_177 : decode b12_readsNode 177 = .ok (.getfield 7, 3) := by decide +kernel
theorem d12_readsNode_180 : decode b12_readsNode 180 = .ok (.bipush 15, 2) := by decide +kernel
theorem d12_readsNode_182 : decode b12_readsNode 182 = .ok (.iload_n 1, 1) := by decide +kernel
theorem d12_readsNode_183 : decode b12_readsNode 183 = .ok (.iadd, 1) := by decide +kernel
theorem d12_readsNode_184 : decode b12_readsNode 184 = .ok (.iconst 1, 1) := by decide +kernel
theorem d12_readsNode_185 : decode b12_readsNode 185 = .ok (.iastore, 1) := by decide +kernel
theorem d12_readsNode_186 : decode b12_readsNode 186 = .ok (.aload_n 0, 1) := by decide +kernel
theorem d12_readsNode_187 : decode b12_readsNode 187 = .ok (.invokevirtual 146, 3) := by decide +kernel
theorem d12_readsNode_190 : decode b12_readsNode 190 = .ok (.aload_n 0, 1) := by decide +kernel
theorem d12_readsNode_191 : decode b12_readsNode 191 = .ok (.getfield 7, 3) := by decide +kernel
theorem d12_readsNode_194 : decode b12_readsNode 194 = .ok (.bipush 25, 2) := by decide +kernel
theorem d12_readsNode_196 : decode b12_readsNode 196 = .ok (.iload_n 1, 1) := by decide +kernel
theorem d12_readsNode_197 : decode b12_readsNode 197 = .ok (.iadd, 1) := by decide +kernel
theorem d12_readsNode_198 : decode b12_readsNode 198 = .ok (.iconst 1, 1) := by decide +kernel
theorem d12_readsNode_199 : decode b12_readsNode 199 = .ok (.iastore, 1) := by decide +kernel
theorem d12_readsNode_200 : decode b12_readsNode 200 = .ok (.aload_n 0, 1) := by decide +kernel
theorem d12_readsNode_201 : decode b12_readsNode 201 = .ok (.getfield 125, 3) := by decide +kernel
theorem d12_readsNode_204 : decode b12_readsNode 204 = .ok (.ifCond .ne 21, 3) := by decide +kernel
theorem d12_readsNode_207 : decode b12_readsNode 207 = .ok (.aload_n 0, 1) := by decide +kernel
theorem d12_readsNode_208 : decode b12_readsNode 208 = .ok (.ldc 167, 2) := by decide +kernel
theorem d12_readsNode_210 : decode b12_readsNode 210 = .ok (.invokevirtual 153, 3) := by decide +kernel
theorem d12_readsNode_213 : decode b12_readsNode 213 = .ok (.ifCond .eq 12, 3) := by decide +kernel
theorem d12_readsNode_216 : decode b12_readsNode 216 = .ok (.aload_n 0, 1) := by decide +kernel
theorem d12_readsNode_217 : decode b12_readsNode 217 = .ok (.invokevirtual 146, 3) := by decide +kernel
theorem d12_readsNode_220 : decode b12_readsNode 220 = .ok (.aload_n 0, 1) := by decide +kernel
theorem d12_readsNode_221 : decode b12_readsNode 221 = .ok (.iload_n 1, 1) := by decide +kernel
theorem d12_readsNode_222 : decode b12_readsNode 222 = .ok (.invokevirtual 186, 3) := by decide +kernel
theorem d12_readsNode_225 : decode b12_readsNode 225 = .ok (.aload_n 0, 1) := by decide +kernel
theorem d12_readsNode_226 : decode b12_readsNode 226 = .ok (.getfield 7, 3) := by decide +kernel
theorem d12_readsNode_229 : decode b12_readsNode 229 = .ok (.iconst 2, 1) := by decide +kernel
theorem d12_readsNode_230 : decode b12_readsNode 230 = .ok (.dup2, 1) := by decide +kernel
theorem d12_readsNode_231 : decode b12_readsNode 231 = .ok (.iaload, 1) := by decide +kernel
theorem d12_readsNode_232 : decode b12_readsNode 232 = .ok (.aload_n 0, 1) := by decide +kernel
theorem d12_readsNode_233 : decode b12_readsNode 233 = .ok (.getfield 125, 3) := by decide +kernel
theorem d12_readsNode_236 : decode b12_readsNode 236 = .ok (.ifCond .eq 7, 3) := by decide +kernel
theorem d12_readsNode_239 : decode b12_readsNode 239 = .ok (.iconst 0, 1) := by decide +kernel
theorem d12_readsNode_240 : decode b12_readsNode 240 = .ok (.goto 4, 3) := by decide +kernel
theorem d12_readsNode_243 : decode b12_readsNode 243 = .ok (.iconst 1, 1) := by decide +kernel
theorem d12_readsNode_244 : decode b12_readsNode 244 = .ok (.iadd, 1) := by decide +kernel
theorem d12_readsNode_245 : decode b12_readsNode 245 = .ok (.iastore, 1) := by decide +kernel
theorem d12_readsNode_246 : decode b12_readsNode 246 = .ok (.return_, 1) := by decide +kernel
theorem mc12_readsCoins : Cond.code y12_readsCoins b12_readsCoins 3 none ∈ ce_cm := ce_cm_of (List.mem_of_getElem? (i := 1329) (by decide +kernel)) (by decide +kernel)
theorem ml_12_186 : Cond.methodLink cn_12 186 y12_readsCoins ∈ ce_cm := ce_cm_of (List.mem_of_getElem? (i := 1326) (by decide +kernel)) (by decide +kernel)
theorem mi12_readsCoins : Cond.instanceMethod y12_readsCoins ∈ ce_cm := ce_cm_of (List.mem_of_getElem? (i := 1328) (by decide +kernel)) (by decide +kernel)
theorem ms12_readsCoins : Cond.selects cn_12 y12_readsCoins y12_readsCoins ∈ ce_cm := ce_cm_of (List.mem_of_getElem? (i := 42) (by decide +kernel)) (by decide +kernel)
theorem mc12_nodeHere : Cond.code y12_nodeHere b12_nodeHere 4 (some .int) ∈ ce_cm := ce_cm_of (List.mem_of_getElem? (i := 1324) (by decide +kernel)) (by decide +kernel)
theorem ml_12_181 : Cond.methodLink cn_12 181 y12_nodeHere ∈ ce_cm := ce_cm_of (List.mem_of_getElem? (i := 1321) (by decide +kernel)) (by decide +kernel)
theorem mi12_nodeHere : Cond.instanceMethod y12_nodeHere ∈ ce_cm := ce_cm_of (List.mem_of_getElem? (i := 1323) (by decide +kernel)) (by decide +kernel)
theorem ms12_nodeHere : Cond.selects cn_12 y12_nodeHere y12_nodeHere ∈ ce_cm := ce_cm_of (List.mem_of_getElem? (i := 41) (by decide +kernel)) (by decide +kernel)
theorem mc12_isKept : Cond.code y12_isKept b12_isKept 1 (some .boolean) ∈ ce_cm := ce_cm_of (List.mem_of_getElem? (i := 1317) (by decide +kernel)) (by decide +kernel)
theorem ml_12_177 : Cond.methodLink cn_12 177 y12_isKept ∈ ce_cm := ce_cm_of (List.mem_of_getElem? (i := 1314) (by decide +kernel)) (by decide +kernel)
theorem mi12_isKept : Cond.instanceMethod y12_isKept ∈ ce_cm := ce_cm_of (List.mem_of_getElem? (i := 1316) (by decide +kernel)) (by decide +kernel)
theorem ms12_isKept : Cond.selects cn_12 y12_isKept y12_isKept ∈ ce_cm := ce_cm_of (List.mem_of_getElem? (i := 40) (by decide +kernel)) (by decide +kernel)
def f12_readsNode_j190 (F : Nat) (x1 : Int32) (h : Hp) : Option (Hp) :=
  if ce_in ((25 : Int32) + x1) 125 = true then
    ce_nm (hp_up h 69 (((25 : Int32) + x1)).toNatClampNeg (1 : Int32)) (fun h_199 =>
      if (h_199 68 11) = 0 then
        Option.bind (f12_isWord F 6 h_199) (fun o210 =>
          if o210.1 = 0 then
            if (o210.2 68 11) = 0 then
              ce_nm (hp_up o210.2 69 ((2 : Int32)).toNatClampNeg ((o210.2 69 ((2 : Int32)).toNatClampNeg) + (1 : Int32))) (fun h_245 =>
                some h_245)
            else
              ce_nm (hp_up o210.2 69 ((2 : Int32)).toNatClampNeg ((o210.2 69 ((2 : Int32)).toNatClampNeg) + (0 : Int32))) (fun h_245 =>
                some h_245)
          else
            Option.bind (f12_next F  o210.2) (fun o217 =>
              Option.bind (f12_readsCoins F x1 o217) (fun o222 =>
                if (o222 68 11) = 0 then
                  ce_nm (hp_up o222 69 ((2 : Int32)).toNatClampNeg ((o222 69 ((2 : Int32)).toNatClampNeg) + (1 : Int32))) (fun h_245 =>
                    some h_245)
                else
                  ce_nm (hp_up o222 69 ((2 : Int32)).toNatClampNeg ((o222 69 ((2 : Int32)).toNatClampNeg) + (0 : Int32))) (fun h_245 =>
                    some h_245))))
      else
        if (h_199 68 11) = 0 then
          ce_nm (hp_up h_199 69 ((2 : Int32)).toNatClampNeg ((h_199 69 ((2 : Int32)).toNatClampNeg) + (1 : Int32))) (fun h_245 =>
            some h_245)
        else
          ce_nm (hp_up h_199 69 ((2 : Int32)).toNatClampNeg ((h_199 69 ((2 : Int32)).toNatClampNeg) + (0 : Int32))) (fun h_245 =>
            some h_245))
  else none
set_option maxRecDepth 20000 in
theorem j12_readsNode_190 (C : ce_Cx p s m args c meth b12_readsNode 2 none cn_12 D ad cA B0 (ce_St aK aV B0)) (F : Nat) (x1 : Int32)  (r : Hp) (h : Hp) (H : Heap) (locs : List Loc) (ls : Array Slot) (hH : ce_H D ad cA B0 [] s h H locs) (hl : lv_has ls 2 [(0, .ref (ad 68)), (1, .int x1)]) (e : Option.bind (f12_readsNode_j190 F x1 h) some = some r) : W p l e0 { frames := 11, cells := 0, slots := 0, locals := 267 } s m args below meth c H locs 0 0 (MQ below (ce_Q D ad cA B0 (ce_St aK aV B0) none r) args s 0 0 (fun q => B0 ≤ q)) (F0 m 190 ls []) := by
  have hx9 := C.1
  have hb := C.2.1
  unfold f12_readsNode_j190 at e
  refine lv_aload_n hx9 hb d12_readsNode_190 rfl (lv_at hl 0 rfl) ?_
  refine gf_12_7 C hH d12_readsNode_191 ?_
  refine lv_bipush (v := (25 : Int32)) hx9 hb d12_readsNode_194 (by decide) ?_
  refine lv_iload_n hx9 hb d12_readsNode_196 rfl (lv_at hl 1 rfl) ?_
  refine lv_iadd hx9 hb d12_readsNode_197 ?_
  refine lv_iconst (v := (1 : Int32)) hx9 hb d12_readsNode_198 (by decide) ?_
  obtain ⟨hi199, e⟩ := ce_gd e
  refine ce_iast C hH lc_69.1 lc_69.2 (ce_in_vp hi199) d12_readsNode_199 (fun H locs hH => ?_)
  obtain ⟨h_199, eh_199, e⟩ := ce_nmE e
  rw [← eh_199] at hH
  refine lv_aload_n hx9 hb d12_readsNode_200 rfl (lv_at hl 0 rfl) ?_
  refine gf_12_125 C hH d12_readsNode_201 ?_
  refine lv_if_ne (tgt := 225) hx9 hb d12_readsNode_204 (by decide) (fun hc204 => ?_) (fun hc204 => ?_)
  · have e := ce_if0 e hc204
    refine lv_aload_n hx9 hb d12_readsNode_225 rfl (lv_at hl 0 rfl) ?_
    refine gf_12_7 C hH d12_readsNode_226 ?_
    refine lv_iconst (v := (2 : Int32)) hx9 hb d12_readsNode_229 (by decide) ?_
    refine lv_dup2_11 hx9 hb d12_readsNode_230 rfl rfl ?_
    refine ce_iald C hH lc_69.1 lc_69.2 (ce_in_vp (by decide)) d12_readsNode_231 ?_
    refine lv_aload_n hx9 hb d12_readsNode_232 rfl (lv_at hl 0 rfl) ?_
    refine gf_12_125 C hH d12_readsNode_233 ?_
    refine lv_if_eq (tgt := 243) hx9 hb d12_readsNode_236 (by decide) (fun hc236 => ?_) (fun hc236 => ?_)
    · have e := ce_if1 e hc236
      refine lv_iconst (v := (1 : Int32)) hx9 hb d12_readsNode_243 (by decide) ?_
      refine lv_iadd hx9 hb d12_readsNode_244 ?_
      refine ce_iast C hH lc_69.1 lc_69.2 (ce_in_vp (by decide)) d12_readsNode_245 (fun H locs hH => ?_)
      obtain ⟨h_245, eh_245, e⟩ := ce_nmE e
      rw [← eh_245] at hH
      exact ce_vret C (ce_sok aK aV B0) hH (Option.some.inj e) d12_readsNode_246
    · have e := ce_if0 e hc236
      refine lv_iconst (v := (0 : Int32)) hx9 hb d12_readsNode_239 (by decide) ?_
      refine lv_goto (tgt := 244) hx9 hb d12_readsNode_240 (by decide) ?_
      refine lv_iadd hx9 hb d12_readsNode_244 ?_
      refine ce_iast C hH lc_69.1 lc_69.2 (ce_in_vp (by decide)) d12_readsNode_245 (fun H locs hH => ?_)
      obtain ⟨h_245, eh_245, e⟩ := ce_nmE e
      rw [← eh_245] at hH
      exact ce_vret C (ce_sok aK aV B0) hH (Option.some.inj e) d12_readsNode_246
  · have e := ce_if1 e hc204
    refine lv_aload_n hx9 hb d12_readsNode_207 rfl (lv_at hl 0 rfl) ?_
    refine va_ldcS hx9 hb C.2.2.2.1 (ce_srR C.2.2.2.2.2.2.2.2.2.2 15 rfl) d12_readsNode_208 ?_
    obtain ⟨o210, eo210, e⟩ := ce_bd e
    refine ce_callV (As := [.ref (aK 6)]) (rest := []) C (ce_sok aK aV B0) hH (c12_isWord l D ad cA aK aV B0 C.2.2.2.2.2.2.1 F 6 (by decide) h_199 o210 eo210) lo_68.1 lo_68.2.choose_spec rfl rfl mc12_isWord ml_12_153 mi12_isWord ms12_isWord mI_12 (n := 1) (by decide) rfl ⟨Nat.le_of_ble_eq_true rfl, Nat.le_of_ble_eq_true rfl⟩ ⟨Nat.le_of_ble_eq_true rfl, Nat.le_of_ble_eq_true rfl⟩ hl.1 rfl (Nat.le_of_ble_eq_true rfl) d12_readsNode_210 (fun H locs hH => ?_)
    refine W.eq (g2 := F0 m 213 ls [.int o210.1]) rfl ?_
    refine lv_if_eq (tgt := 225) hx9 hb d12_readsNode_213 (by decide) (fun hc213 => ?_) (fun hc213 => ?_)
    · have e := ce_if1 e hc213
      refine lv_aload_n hx9 hb d12_readsNode_225 rfl (lv_at hl 0 rfl) ?_
      refine gf_12_7 C hH d12_readsNode_226 ?_
      refine lv_iconst (v := (2 : Int32)) hx9 hb d12_readsNode_229 (by decide) ?_
      refine lv_dup2_11 hx9 hb d12_readsNode_230 rfl rfl ?_
      refine ce_iald C hH lc_69.1 lc_69.2 (ce_in_vp (by decide)) d12_readsNode_231 ?_
      refine lv_aload_n hx9 hb d12_readsNode_232 rfl (lv_at hl 0 rfl) ?_
      refine gf_12_125 C hH d12_readsNode_233 ?_
      refine lv_if_eq (tgt := 243) hx9 hb d12_readsNode_236 (by decide) (fun hc236 => ?_) (fun hc236 => ?_)
      · have e := ce_if1 e hc236
        refine lv_iconst (v := (1 : Int32)) hx9 hb d12_readsNode_243 (by decide) ?_
        refine lv_iadd hx9 hb d12_readsNode_244 ?_
        refine ce_iast C hH lc_69.1 lc_69.2 (ce_in_vp (by decide)) d12_readsNode_245 (fun H locs hH => ?_)
        obtain ⟨h_245, eh_245, e⟩ := ce_nmE e
        rw [← eh_245] at hH
        exact ce_vret C (ce_sok aK aV B0) hH (Option.some.inj e) d12_readsNode_246
      · have e := ce_if0 e hc236
        refine lv_iconst (v := (0 : Int32)) hx9 hb d12_readsNode_239 (by decide) ?_
        refine lv_goto (tgt := 244) hx9 hb d12_readsNode_240 (by decide) ?_
        refine lv_iadd hx9 hb d12_readsNode_244 ?_
        refine ce_iast C hH lc_69.1 lc_69.2 (ce_in_vp (by decide)) d12_readsNode_245 (fun H locs hH => ?_)
        obtain ⟨h_245, eh_245, e⟩ := ce_nmE e
        rw [← eh_245] at hH
        exact ce_vret C (ce_sok aK aV B0) hH (Option.some.inj e) d12_readsNode_246
    · have e := ce_if0 e hc213
      refine lv_aload_n hx9 hb d12_readsNode_216 rfl (lv_at hl 0 rfl) ?_
      obtain ⟨o217, eo217, e⟩ := ce_bd e
      refine ce_callV (As := []) (rest := []) C (ce_sok aK aV B0) hH (c12_next l D ad cA aK aV B0 C.2.2.2.2.2.2.1 F   o210.2 o217 eo217) lo_68.1 lo_68.2.choose_spec rfl rfl mc12_next ml_12_146 mi12_next ms12_next mI_12 (n := 0) (by decide) rfl ⟨Nat.le_of_ble_eq_true rfl, Nat.le_of_ble_eq_true rfl⟩ ⟨Nat.le_of_ble_eq_true rfl, Nat.le_of_ble_eq_true rfl⟩ hl.1 rfl (Nat.le_of_ble_eq_true rfl) d12_readsNode_217 (fun H locs hH => ?_)
      refine W.eq (g2 := F0 m 220 ls []) rfl ?_
      refine lv_aload_n hx9 hb d12_readsNode_220 rfl (lv_at hl 0 rfl) ?_
      refine lv_iload_n hx9 hb d12_readsNode_221 rfl (lv_at hl 1 rfl) ?_
      obtain ⟨o222, eo222, e⟩ := ce_bd e
      refine ce_callV (As := [.int x1]) (rest := []) C (ce_sok aK aV B0) hH (c12_readsCoins l D ad cA aK aV B0 C.2.2.2.2.2.2.1 F x1  o217 o222 eo222) lo_68.1 lo_68.2.choose_spec rfl rfl mc12_readsCoins ml_12_186 mi12_readsCoins ms12_readsCoins mI_12 (n := 1) (by decide) rfl ⟨Nat.le_of_ble_eq_true rfl, Nat.le_of_ble_eq_true rfl⟩ ⟨Nat.le_of_ble_eq_true rfl, Nat.le_of_ble_eq_true rfl⟩ hl.1 rfl (Nat.le_of_ble_eq_true rfl) d12_readsNode_222 (fun H locs hH => ?_)
      refine W.eq (g2 := F0 m 225 ls []) rfl ?_
      refine lv_aload_n hx9 hb d12_readsNode_225 rfl (lv_at hl 0 rfl) ?_
      refine gf_12_7 C hH d12_readsNode_226 ?_
      refine lv_iconst (v := (2 : Int32)) hx9 hb d12_readsNode_229 (by decide) ?_
      refine lv_dup2_11 hx9 hb d12_readsNode_230 rfl rfl ?_
      refine ce_iald C hH lc_69.1 lc_69.2 (ce_in_vp (by decide)) d12_readsNode_231 ?_
      refine lv_aload_n hx9 hb d12_readsNode_232 rfl (lv_at hl 0 rfl) ?_
      refine gf_12_125 C hH d12_readsNode_233 ?_
      refine lv_if_eq (tgt := 243) hx9 hb d12_readsNode_236 (by decide) (fun hc236 => ?_) (fun hc236 => ?_)
      · have e := ce_if1 e hc236
        refine lv_iconst (v := (1 : Int32)) hx9 hb d12_readsNode_243 (by decide) ?_
        refine lv_iadd hx9 hb d12_readsNode_244 ?_
        refine ce_iast C hH lc_69.1 lc_69.2 (ce_in_vp (by decide)) d12_readsNode_245 (fun H locs hH => ?_)
        obtain ⟨h_245, eh_245, e⟩ := ce_nmE e
        rw [← eh_245] at hH
        exact ce_vret C (ce_sok aK aV B0) hH (Option.some.inj e) d12_readsNode_246
      · have e := ce_if0 e hc236
        refine lv_iconst (v := (0 : Int32)) hx9 hb d12_readsNode_239 (by decide) ?_
        refine lv_goto (tgt := 244) hx9 hb d12_readsNode_240 (by decide) ?_
        refine lv_iadd hx9 hb d12_readsNode_244 ?_
        refine ce_iast C hH lc_69.1 lc_69.2 (ce_in_vp (by decide)) d12_readsNode_245 (fun H locs hH => ?_)
        obtain ⟨h_245, eh_245, e⟩ := ce_nmE e
        rw [← eh_245] at hH
        exact ce_vret C (ce_sok aK aV B0) hH (Option.some.inj e) d12_readsNode_246
def f12_readsNode_j141 (F : Nat) (x1 : Int32) (s0 : Int32) (h : Hp) : Option (Hp) :=
  Option.bind (f12_passes F s0 h) (fun o141 =>
    Option.bind (f12_named F 7 (1 : Int32) (4 : Int32) o141) (fun o156 =>
      if ce_in ((5 : Int32) + x1) 125 = true then
        ce_nm (hp_up o156.2 69 (((5 : Int32) + x1)).toNatClampNeg o156.1) (fun h_159 =>
          if (h_159 68 11) = 0 then
            Option.bind (f12_isWord F 5 h_159) (fun o170 =>
              if o170.1 = 0 then
                f12_readsNode_j190 F x1 o170.2
              else
                if ce_in ((15 : Int32) + x1) 125 = true then
                  ce_nm (hp_up o170.2 69 (((15 : Int32) + x1)).toNatClampNeg (1 : Int32)) (fun h_185 =>
                    Option.bind (f12_next F  h_185) (fun o187 =>
                      f12_readsNode_j190 F x1 o187))
                else none)
          else
            f12_readsNode_j190 F x1 h_159)
      else none))
set_option maxRecDepth 20000 in
theorem j12_readsNode_141 (C : ce_Cx p s m args c meth b12_readsNode 2 none cn_12 D ad cA B0 (ce_St aK aV B0)) (F : Nat) (x1 : Int32) (s0 : Int32)  (r : Hp) (h : Hp) (H : Heap) (locs : List Loc) (ls : Array Slot) (hH : ce_H D ad cA B0 [] s h H locs) (hl : lv_has ls 2 [(0, .ref (ad 68)), (1, .int x1)]) (e : Option.bind (f12_readsNode_j141 F x1 s0 h) some = some r) : W p l e0 { frames := 11, cells := 0, slots := 0, locals := 267 } s m args below meth c H locs 0 0 (MQ below (ce_Q D ad cA B0 (ce_St aK aV B0) none r) args s 0 0 (fun q => B0 ≤ q)) (F0 m 141 ls [.int s0, .ref (ad 68)]) := by
  have hx9 := C.1
  have hb := C.2.1
  unfold f12_readsNode_j141 at e
  obtain ⟨o141, eo141, e⟩ := ce_bd e
  refine ce_callV (As := [.int s0]) (rest := []) C (ce_sok aK aV B0) hH (c12_passes l D ad cA aK aV B0 C.2.2.2.2.2.2.1 F s0  h o141 eo141) lo_68.1 lo_68.2.choose_spec rfl rfl mc12_passes ml_12_149 mi12_passes ms12_passes mI_12 (n := 1) (by decide) rfl ⟨Nat.le_of_ble_eq_true rfl, Nat.le_of_ble_eq_true rfl⟩ ⟨Nat.le_of_ble_eq_true rfl, Nat.le_of_ble_eq_true rfl⟩ hl.1 rfl (Nat.le_of_ble_eq_true rfl) d12_readsNode_141 (fun H locs hH => ?_)
  refine W.eq (g2 := F0 m 144 ls []) rfl ?_
  refine lv_aload_n hx9 hb d12_readsNode_144 rfl (lv_at hl 0 rfl) ?_
  refine gf_12_7 C hH d12_readsNode_145 ?_
  refine lv_iconst (v := (5 : Int32)) hx9 hb d12_readsNode_148 (by decide) ?_
  refine lv_iload_n hx9 hb d12_readsNode_149 rfl (lv_at hl 1 rfl) ?_
  refine lv_iadd hx9 hb d12_readsNode_150 ?_
  refine lv_aload_n hx9 hb d12_readsNode_151 rfl (lv_at hl 0 rfl) ?_
  refine va_ldcS hx9 hb C.2.2.2.1 (ce_srR C.2.2.2.2.2.2.2.2.2.2 16 rfl) d12_readsNode_152 ?_
  refine lv_iconst (v := (1 : Int32)) hx9 hb d12_readsNode_154 (by decide) ?_
  refine lv_iconst (v := (4 : Int32)) hx9 hb d12_readsNode_155 (by decide) ?_
  obtain ⟨o156, eo156, e⟩ := ce_bd e
  refine ce_callV (As := [.ref (aK 7), .int (1 : Int32), .int (4 : Int32)]) (rest := [.int ((5 : Int32) + x1), .ref (ad 69)]) C (ce_sok aK aV B0) hH (c12_named l D ad cA aK aV B0 C.2.2.2.2.2.2.1 F 7 (1 : Int32) (4 : Int32) (by decide) o141 o156 eo156) lo_68.1 lo_68.2.choose_spec rfl rfl mc12_named ml_12_171 mi12_named ms12_named mI_12 (n := 3) (by decide) rfl ⟨Nat.le_of_ble_eq_true rfl, Nat.le_of_ble_eq_true rfl⟩ ⟨Nat.le_of_ble_eq_true rfl, Nat.le_of_ble_eq_true rfl⟩ hl.1 rfl (Nat.le_of_ble_eq_true rfl) d12_readsNode_156 (fun H locs hH => ?_)
  refine W.eq (g2 := F0 m 159 ls [.int o156.1, .int ((5 : Int32) + x1), .ref (ad 69)]) rfl ?_
  obtain ⟨hi159, e⟩ := ce_gd e
  refine ce_iast C hH lc_69.1 lc_69.2 (ce_in_vp hi159) d12_readsNode_159 (fun H locs hH => ?_)
  obtain ⟨h_159, eh_159, e⟩ := ce_nmE e
  rw [← eh_159] at hH
  refine lv_aload_n hx9 hb d12_readsNode_160 rfl (lv_at hl 0 rfl) ?_
  refine gf_12_125 C hH d12_readsNode_161 ?_
  refine lv_if_ne (tgt := 190) hx9 hb d12_readsNode_164 (by decide) (fun hc164 => ?_) (fun hc164 => ?_)
  · have e := ce_if0 e hc164
    exact j12_readsNode_190 C F x1  r h_159 _ _ _ hH (lv_sub hl [0, 1] rfl) e
  · have e := ce_if1 e hc164
    refine lv_aload_n hx9 hb d12_readsNode_167 rfl (lv_at hl 0 rfl) ?_
    refine va_ldcS hx9 hb C.2.2.2.1 (ce_srR C.2.2.2.2.2.2.2.2.2.2 14 rfl) d12_readsNode_168 ?_
    obtain ⟨o170, eo170, e⟩ := ce_bd e
    refine ce_callV (As := [.ref (aK 5)]) (rest := []) C (ce_sok aK aV B0) hH (c12_isWord l D ad cA aK aV B0 C.2.2.2.2.2.2.1 F 5 (by decide) h_159 o170 eo170) lo_68.1 lo_68.2.choose_spec rfl rfl mc12_isWord ml_12_153 mi12_isWord ms12_isWord mI_12 (n := 1) (by decide) rfl ⟨Nat.le_of_ble_eq_true rfl, Nat.le_of_ble_eq_true rfl⟩ ⟨Nat.le_of_ble_eq_true rfl, Nat.le_of_ble_eq_true rfl⟩ hl.1 rfl (Nat.le_of_ble_eq_true rfl) d12_readsNode_170 (fun H locs hH => ?_)
    refine W.eq (g2 := F0 m 173 ls [.int o170.1]) rfl ?_
    refine lv_if_eq (tgt := 190) hx9 hb d12_readsNode_173 (by decide) (fun hc173 => ?_) (fun hc173 => ?_)
    · have e := ce_if1 e hc173
      exact j12_readsNode_190 C F x1  r o170.2 _ _ _ hH (lv_sub hl [0, 1] rfl) e
    · have e := ce_if0 e hc173
      refine lv_aload_n hx9 hb d12_readsNode_176 rfl (lv_at hl 0 rfl) ?_
      refine gf_12_7 C hH d12_readsNode_177 ?_
      refine lv_bipush (v := (15 : Int32)) hx9 hb d12_readsNode_180 (by decide) ?_
      refine lv_iload_n hx9 hb d12_readsNode_182 rfl (lv_at hl 1 rfl) ?_
      refine lv_iadd hx9 hb d12_readsNode_183 ?_
      refine lv_iconst (v := (1 : Int32)) hx9 hb d12_readsNode_184 (by decide) ?_
      obtain ⟨hi185, e⟩ := ce_gd e
      refine ce_iast C hH lc_69.1 lc_69.2 (ce_in_vp hi185) d12_readsNode_185 (fun H locs hH => ?_)
      obtain ⟨h_185, eh_185, e⟩ := ce_nmE e
      rw [← eh_185] at hH
      refine lv_aload_n hx9 hb d12_readsNode_186 rfl (lv_at hl 0 rfl) ?_
      obtain ⟨o187, eo187, e⟩ := ce_bd e
      refine ce_callV (As := []) (rest := []) C (ce_sok aK aV B0) hH (c12_next l D ad cA aK aV B0 C.2.2.2.2.2.2.1 F   h_185 o187 eo187) lo_68.1 lo_68.2.choose_spec rfl rfl mc12_next ml_12_146 mi12_next ms12_next mI_12 (n := 0) (by decide) rfl ⟨Nat.le_of_ble_eq_true rfl, Nat.le_of_ble_eq_true rfl⟩ ⟨Nat.le_of_ble_eq_true rfl, Nat.le_of_ble_eq_true rfl⟩ hl.1 rfl (Nat.le_of_ble_eq_true rfl) d12_readsNode_187 (fun H locs hH => ?_)
      refine W.eq (g2 := F0 m 190 ls []) rfl ?_
      exact j12_readsNode_190 C F x1  r o187 _ _ _ hH (lv_sub hl [0, 1] rfl) e
def f12_readsNode_j136 (F : Nat) (x1 : Int32) (h : Hp) : Option (Hp) :=
  f12_readsNode_j141 F x1 (1 : Int32) h
set_option maxRecDepth 20000 in
theorem j12_readsNode_136 (C : ce_Cx p s m args c meth b12_readsNode 2 none cn_12 D ad cA B0 (ce_St aK aV B0)) (F : Nat) (x1 : Int32)  (r : Hp) (h : Hp) (H : Heap) (locs : List Loc) (ls : Array Slot) (hH : ce_H D ad cA B0 [] s h H locs) (hl : lv_has ls 2 [(0, .ref (ad 68)), (1, .int x1)]) (e : Option.bind (f12_readsNode_j136 F x1 h) some = some r) : W p l e0 { frames := 11, cells := 0, slots := 0, locals := 267 } s m args below meth c H locs 0 0 (MQ below (ce_Q D ad cA B0 (ce_St aK aV B0) none r) args s 0 0 (fun q => B0 ≤ q)) (F0 m 136 ls [.ref (ad 68)]) := by
  have hx9 := C.1
  have hb := C.2.1
  unfold f12_readsNode_j136 at e
  refine lv_iconst (v := (1 : Int32)) hx9 hb d12_readsNode_136 (by decide) ?_
  refine lv_goto (tgt := 141) hx9 hb d12_readsNode_137 (by decide) ?_
  exact j12_readsNode_141 C F x1 (1 : Int32)  r h _ _ _ hH (lv_sub hl [0, 1] rfl) e
def f12_readsNode_j120 (F : Nat) (x1 : Int32) (h : Hp) : Option (Hp) :=
  if (h 68 11) = 0 then
    if (h 68 9) = (1 : Int32) then
      f12_readsNode_j136 F x1 h
    else
      f12_readsNode_j141 F x1 (0 : Int32) h
  else
    f12_readsNode_j136 F x1 h
set_option maxRecDepth 20000 in
theorem j12_readsNode_120 (C : ce_Cx p s m args c meth b12_readsNode 2 none cn_12 D ad cA B0 (ce_St aK aV B0)) (F : Nat) (x1 : Int32)  (r : Hp) (h : Hp) (H : Heap) (locs : List Loc) (ls : Array Slot) (hH : ce_H D ad cA B0 [] s h H locs) (hl : lv_has ls 2 [(0, .ref (ad 68)), (1, .int x1)]) (e : Option.bind (f12_readsNode_j120 F x1 h) some = some r) : W p l e0 { frames := 11, cells := 0, slots := 0, locals := 267 } s m args below meth c H locs 0 0 (MQ below (ce_Q D ad cA B0 (ce_St aK aV B0) none r) args s 0 0 (fun q => B0 ≤ q)) (F0 m 120 ls []) := by
  have hx9 := C.1
  have hb := C.2.1
  unfold f12_readsNode_j120 at e
  refine lv_aload_n hx9 hb d12_readsNode_120 rfl (lv_at hl 0 rfl) ?_
  refine lv_aload_n hx9 hb d12_readsNode_121 rfl (lv_at hl 0 rfl) ?_
  refine gf_12_125 C hH d12_readsNode_122 ?_
  refine lv_if_ne (tgt := 136) hx9 hb d12_readsNode_125 (by decide) (fun hc125 => ?_) (fun hc125 => ?_)
  · have e := ce_if0 e hc125
    exact j12_readsNode_136 C F x1  r h _ _ _ hH (lv_sub hl [0, 1] rfl) e
  · have e := ce_if1 e hc125
    refine lv_aload_n hx9 hb d12_readsNode_128 rfl (lv_at hl 0 rfl) ?_
    refine gf_12_115 C hH d12_readsNode_129 ?_
    refine lv_iconst (v := (1 : Int32)) hx9 hb d12_readsNode_132 (by decide) ?_
    refine lv_icmp_ne (tgt := 140) hx9 hb d12_readsNode_133 (by decide) (fun hc133 => ?_) (fun hc133 => ?_)
    · have e := ce_if0 e hc133
      refine lv_iconst (v := (0 : Int32)) hx9 hb d12_readsNode_140 (by decide) ?_
      exact j12_readsNode_141 C F x1 (0 : Int32)  r h _ _ _ hH (lv_sub hl [0, 1] rfl) e
    · have e := ce_if1 e hc133
      exact j12_readsNode_136 C F x1  r h _ _ _ hH (lv_sub hl [0, 1] rfl) e
def f12_readsNode_j88 (F : Nat) (x1 : Int32) (h : Hp) : Option (Hp) :=
  if (h 68 11) = 0 then
    if ce_in x1 10 = true then
      ce_nm (hp_up h 73 (x1).toNatClampNeg (h 68 8)) (fun h_104 =>
        if ce_in x1 10 = true then
          ce_nm (hp_up h_104 74 (x1).toNatClampNeg ((h_104 68 7) - (h_104 68 8))) (fun h_119 =>
            f12_readsNode_j120 F x1 h_119)
        else none)
    else none
  else
    f12_readsNode_j120 F x1 h
set_option maxRecDepth 20000 in
theorem j12_readsNode_88 (C : ce_Cx p s m args c meth b12_readsNode 2 none cn_12 D ad cA B0 (ce_St aK aV B0)) (F : Nat) (x1 : Int32)  (r : Hp) (h : Hp) (H : Heap) (locs : List Loc) (ls : Array Slot) (hH : ce_H D ad cA B0 [] s h H locs) (hl : lv_has ls 2 [(0, .ref (ad 68)), (1, .int x1)]) (e : Option.bind (f12_readsNode_j88 F x1 h) some = some r) : W p l e0 { frames := 11, cells := 0, slots := 0, locals := 267 } s m args below meth c H locs 0 0 (MQ below (ce_Q D ad cA B0 (ce_St aK aV B0) none r) args s 0 0 (fun q => B0 ≤ q)) (F0 m 88 ls []) := by
  have hx9 := C.1
  have hb := C.2.1
  unfold f12_readsNode_j88 at e
  refine lv_aload_n hx9 hb d12_readsNode_88 rfl (lv_at hl 0 rfl) ?_
  refine gf_12_125 C hH d12_readsNode_89 ?_
  refine lv_if_ne (tgt := 120) hx9 hb d12_readsNode_92 (by decide) (fun hc92 => ?_) (fun hc92 => ?_)
  · have e := ce_if0 e hc92
    exact j12_readsNode_120 C F x1  r h _ _ _ hH (lv_sub hl [0, 1] rfl) e
  · have e := ce_if1 e hc92
    refine lv_aload_n hx9 hb d12_readsNode_95 rfl (lv_at hl 0 rfl) ?_
    refine gf_12_26 C hH d12_readsNode_96 ?_
    refine lv_iload_n hx9 hb d12_readsNode_99 rfl (lv_at hl 1 rfl) ?_
    refine lv_aload_n hx9 hb d12_readsNode_100 rfl (lv_at hl 0 rfl) ?_
    refine gf_12_109 C hH d12_readsNode_101 ?_
    obtain ⟨hi104, e⟩ := ce_gd e
    refine ce_iast C hH lc_73.1 lc_73.2 (ce_in_vp hi104) d12_readsNode_104 (fun H locs hH => ?_)
    obtain ⟨h_104, eh_104, e⟩ := ce_nmE e
    rw [← eh_104] at hH
    refine lv_aload_n hx9 hb d12_readsNode_105 rfl (lv_at hl 0 rfl) ?_
    refine gf_12_29 C hH d12_readsNode_106 ?_
    refine lv_iload_n hx9 hb d12_readsNode_109 rfl (lv_at hl 1 rfl) ?_
    refine lv_aload_n hx9 hb d12_readsNode_110 rfl (lv_at hl 0 rfl) ?_
    refine gf_12_102 C hH d12_readsNode_111 ?_
    refine lv_aload_n hx9 hb d12_readsNode_114 rfl (lv_at hl 0 rfl) ?_
    refine gf_12_109 C hH d12_readsNode_115 ?_
    refine lv_isub hx9 hb d12_readsNode_118 ?_
    obtain ⟨hi119, e⟩ := ce_gd e
    refine ce_iast C hH lc_74.1 lc_74.2 (ce_in_vp hi119) d12_readsNode_119 (fun H locs hH => ?_)
    obtain ⟨h_119, eh_119, e⟩ := ce_nmE e
    rw [← eh_119] at hH
    exact j12_readsNode_120 C F x1  r h_119 _ _ _ hH (lv_sub hl [0, 1] rfl) e
def f12_readsNode_j83 (F : Nat) (x1 : Int32) (h : Hp) : Option (Hp) :=
  Option.bind (f12_faults F (2 : Int32) h) (fun o85 =>
    f12_readsNode_j88 F x1 o85)
set_option maxRecDepth 20000 in
theorem j12_readsNode_83 (C : ce_Cx p s m args c meth b12_readsNode 2 none cn_12 D ad cA B0 (ce_St aK aV B0)) (F : Nat) (x1 : Int32)  (r : Hp) (h : Hp) (H : Heap) (locs : List Loc) (ls : Array Slot) (hH : ce_H D ad cA B0 [] s h H locs) (hl : lv_has ls 2 [(0, .ref (ad 68)), (1, .int x1)]) (e : Option.bind (f12_readsNode_j83 F x1 h) some = some r) : W p l e0 { frames := 11, cells := 0, slots := 0, locals := 267 } s m args below meth c H locs 0 0 (MQ below (ce_Q D ad cA B0 (ce_St aK aV B0) none r) args s 0 0 (fun q => B0 ≤ q)) (F0 m 83 ls []) := by
  have hx9 := C.1
  have hb := C.2.1
  unfold f12_readsNode_j83 at e
  refine lv_aload_n hx9 hb d12_readsNode_83 rfl (lv_at hl 0 rfl) ?_
  refine lv_iconst (v := (2 : Int32)) hx9 hb d12_readsNode_84 (by decide) ?_
  obtain ⟨o85, eo85, e⟩ := ce_bd e
  refine ce_callV (As := [.int (2 : Int32)]) (rest := []) C (ce_sok aK aV B0) hH (c12_faults l D ad cA aK aV B0 C.2.2.2.2.2.2.1 F (2 : Int32)  h o85 eo85) lo_68.1 lo_68.2.choose_spec rfl rfl mc12_faults ml_12_142 mi12_faults ms12_faults mI_12 (n := 1) (by decide) rfl ⟨Nat.le_of_ble_eq_true rfl, Nat.le_of_ble_eq_true rfl⟩ ⟨Nat.le_of_ble_eq_true rfl, Nat.le_of_ble_eq_true rfl⟩ hl.1 rfl (Nat.le_of_ble_eq_true rfl) d12_readsNode_85 (fun H locs hH => ?_)
  refine W.eq (g2 := F0 m 88 ls []) rfl ?_
  exact j12_readsNode_88 C F x1  r o85 _ _ _ hH (lv_sub hl [0, 1] rfl) e
def f12_readsNode_j38 (F : Nat) (s0 : Int32) (h : Hp) : Option (Hp) :=
  if (h 68 11) = 0 then
    if (h 68 9) = (1 : Int32) then
      if (6 : Int32) < ((h 68 7) - (h 68 8)) then
        f12_readsNode_j83 F s0 h
      else
        Option.bind (f12_isKept F  h) (fun o69 =>
          if o69.1 = 0 then
            Option.bind (f12_nodeHere F  o69.2) (fun o76 =>
              if o76.1 = (-1 : Int32) then
                f12_readsNode_j88 F s0 o76.2
              else
                f12_readsNode_j83 F s0 o76.2)
          else
            f12_readsNode_j83 F s0 o69.2)
    else
      f12_readsNode_j88 F s0 h
  else
    f12_readsNode_j88 F s0 h
set_option maxRecDepth 20000 in
theorem j12_readsNode_38 (C : ce_Cx p s m args c meth b12_readsNode 2 none cn_12 D ad cA B0 (ce_St aK aV B0)) (F : Nat) (s0 : Int32)  (r : Hp) (h : Hp) (H : Heap) (locs : List Loc) (ls : Array Slot) (hH : ce_H D ad cA B0 [] s h H locs) (hl : lv_has ls 2 [(0, .ref (ad 68))]) (e : Option.bind (f12_readsNode_j38 F s0 h) some = some r) : W p l e0 { frames := 11, cells := 0, slots := 0, locals := 267 } s m args below meth c H locs 0 0 (MQ below (ce_Q D ad cA B0 (ce_St aK aV B0) none r) args s 0 0 (fun q => B0 ≤ q)) (F0 m 38 ls [.int s0]) := by
  have hx9 := C.1
  have hb := C.2.1
  unfold f12_readsNode_j38 at e
  refine lv_istore_n (lv' := [(1, .int s0), (0, .ref (ad 68))]) hx9 hb d12_readsNode_38 rfl hl (by decide) rfl (fun ls hl => ?_)
  refine lv_aload_n hx9 hb d12_readsNode_39 rfl (lv_at hl 1 rfl) ?_
  refine gf_12_125 C hH d12_readsNode_40 ?_
  refine lv_if_ne (tgt := 88) hx9 hb d12_readsNode_43 (by decide) (fun hc43 => ?_) (fun hc43 => ?_)
  · have e := ce_if0 e hc43
    exact j12_readsNode_88 C F s0  r h _ _ _ hH (lv_sub hl [1, 0] rfl) e
  · have e := ce_if1 e hc43
    refine lv_aload_n hx9 hb d12_readsNode_46 rfl (lv_at hl 1 rfl) ?_
    refine gf_12_115 C hH d12_readsNode_47 ?_
    refine lv_iconst (v := (1 : Int32)) hx9 hb d12_readsNode_50 (by decide) ?_
    refine lv_icmp_ne (tgt := 88) hx9 hb d12_readsNode_51 (by decide) (fun hc51 => ?_) (fun hc51 => ?_)
    · have e := ce_if0 e hc51
      exact j12_readsNode_88 C F s0  r h _ _ _ hH (lv_sub hl [1, 0] rfl) e
    · have e := ce_if1 e hc51
      refine lv_aload_n hx9 hb d12_readsNode_54 rfl (lv_at hl 1 rfl) ?_
      refine gf_12_102 C hH d12_readsNode_55 ?_
      refine lv_aload_n hx9 hb d12_readsNode_58 rfl (lv_at hl 1 rfl) ?_
      refine gf_12_109 C hH d12_readsNode_59 ?_
      refine lv_isub hx9 hb d12_readsNode_62 ?_
      refine lv_bipush (v := (6 : Int32)) hx9 hb d12_readsNode_63 (by decide) ?_
      refine lv_icmp_gt (tgt := 83) hx9 hb d12_readsNode_65 (by decide) (fun hc65 => ?_) (fun hc65 => ?_)
      · have e := ce_if1 e hc65
        exact j12_readsNode_83 C F s0  r h _ _ _ hH (lv_sub hl [1, 0] rfl) e
      · have e := ce_if0 e hc65
        refine lv_aload_n hx9 hb d12_readsNode_68 rfl (lv_at hl 1 rfl) ?_
        obtain ⟨o69, eo69, e⟩ := ce_bd e
        refine ce_callV (As := []) (rest := []) C (ce_sok aK aV B0) hH (c12_isKept l D ad cA aK aV B0 C.2.2.2.2.2.2.1 F   h o69 eo69) lo_68.1 lo_68.2.choose_spec rfl rfl mc12_isKept ml_12_177 mi12_isKept ms12_isKept mI_12 (n := 0) (by decide) rfl ⟨Nat.le_of_ble_eq_true rfl, Nat.le_of_ble_eq_true rfl⟩ ⟨Nat.le_of_ble_eq_true rfl, Nat.le_of_ble_eq_true rfl⟩ hl.1 rfl (Nat.le_of_ble_eq_true rfl) d12_readsNode_69 (fun H locs hH => ?_)
        refine W.eq (g2 := F0 m 72 ls [.int o69.1]) rfl ?_
        refine lv_if_ne (tgt := 83) hx9 hb d12_readsNode_72 (by decide) (fun hc72 => ?_) (fun hc72 => ?_)
        · have e := ce_if0 e hc72
          exact j12_readsNode_83 C F s0  r o69.2 _ _ _ hH (lv_sub hl [1, 0] rfl) e
        · have e := ce_if1 e hc72
          refine lv_aload_n hx9 hb d12_readsNode_75 rfl (lv_at hl 1 rfl) ?_
          obtain ⟨o76, eo76, e⟩ := ce_bd e
          refine ce_callV (As := []) (rest := []) C (ce_sok aK aV B0) hH (c12_nodeHere l D ad cA aK aV B0 C.2.2.2.2.2.2.1 F   o69.2 o76 eo76) lo_68.1 lo_68.2.choose_spec rfl rfl mc12_nodeHere ml_12_181 mi12_nodeHere ms12_nodeHere mI_12 (n := 0) (by decide) rfl ⟨Nat.le_of_ble_eq_true rfl, Nat.le_of_ble_eq_true rfl⟩ ⟨Nat.le_of_ble_eq_true rfl, Nat.le_of_ble_eq_true rfl⟩ hl.1 rfl (Nat.le_of_ble_eq_true rfl) d12_readsNode_76 (fun H locs hH => ?_)
          refine W.eq (g2 := F0 m 79 ls [.int o76.1]) rfl ?_
          refine lv_iconst (v := (-1 : Int32)) hx9 hb d12_readsNode_79 (by decide) ?_
          refine lv_icmp_eq (tgt := 88) hx9 hb d12_readsNode_80 (by decide) (fun hc80 => ?_) (fun hc80 => ?_)
          · have e := ce_if1 e hc80
            exact j12_readsNode_88 C F s0  r o76.2 _ _ _ hH (lv_sub hl [1, 0] rfl) e
          · have e := ce_if0 e hc80
            exact j12_readsNode_83 C F s0  r o76.2 _ _ _ hH (lv_sub hl [1, 0] rfl) e
def f12_readsNode_j16 (F : Nat)  (h : Hp) : Option (Hp) :=
  Option.bind (f12_passes F (1 : Int32) h) (fun o18 =>
    if (o18 68 11) = 0 then
      f12_readsNode_j38 F (o18 69 ((2 : Int32)).toNatClampNeg) o18
    else
      f12_readsNode_j38 F (0 : Int32) o18)
set_option maxRecDepth 20000 in
theorem j12_readsNode_16 (C : ce_Cx p s m args c meth b12_readsNode 2 none cn_12 D ad cA B0 (ce_St aK aV B0)) (F : Nat)   (r : Hp) (h : Hp) (H : Heap) (locs : List Loc) (ls : Array Slot) (hH : ce_H D ad cA B0 [] s h H locs) (hl : lv_has ls 2 [(0, .ref (ad 68))]) (e : Option.bind (f12_readsNode_j16 F  h) some = some r) : W p l e0 { frames := 11, cells := 0, slots := 0, locals := 267 } s m args below meth c H locs 0 0 (MQ below (ce_Q D ad cA B0 (ce_St aK aV B0) none r) args s 0 0 (fun q => B0 ≤ q)) (F0 m 16 ls []) := by
  have hx9 := C.1
  have hb := C.2.1
  unfold f12_readsNode_j16 at e
  refine lv_aload_n hx9 hb d12_readsNode_16 rfl (lv_at hl 0 rfl) ?_
  refine lv_iconst (v := (1 : Int32)) hx9 hb d12_readsNode_17 (by decide) ?_
  obtain ⟨o18, eo18, e⟩ := ce_bd e
  refine ce_callV (As := [.int (1 : Int32)]) (rest := []) C (ce_sok aK aV B0) hH (c12_passes l D ad cA aK aV B0 C.2.2.2.2.2.2.1 F (1 : Int32)  h o18 eo18) lo_68.1 lo_68.2.choose_spec rfl rfl mc12_passes ml_12_149 mi12_passes ms12_passes mI_12 (n := 1) (by decide) rfl ⟨Nat.le_of_ble_eq_true rfl, Nat.le_of_ble_eq_true rfl⟩ ⟨Nat.le_of_ble_eq_true rfl, Nat.le_of_ble_eq_true rfl⟩ hl.1 rfl (Nat.le_of_ble_eq_true rfl) d12_readsNode_18 (fun H locs hH => ?_)
  refine W.eq (g2 := F0 m 21 ls []) rfl ?_
  refine lv_aload_n hx9 hb d12_readsNode_21 rfl (lv_at hl 0 rfl) ?_
  refine gf_12_125 C hH d12_readsNode_22 ?_
  refine lv_if_eq (tgt := 32) hx9 hb d12_readsNode_25 (by decide) (fun hc25 => ?_) (fun hc25 => ?_)
  · have e := ce_if1 e hc25
    refine lv_aload_n hx9 hb d12_readsNode_32 rfl (lv_at hl 0 rfl) ?_
    refine gf_12_7 C hH d12_readsNode_33 ?_
    refine lv_iconst (v := (2 : Int32)) hx9 hb d12_readsNode_36 (by decide) ?_
    refine ce_iald C hH lc_69.1 lc_69.2 (ce_in_vp (by decide)) d12_readsNode_37 ?_
    exact j12_readsNode_38 C F (o18 69 ((2 : Int32)).toNatClampNeg)  r o18 _ _ _ hH (lv_sub hl [0] rfl) e
  · have e := ce_if0 e hc25
    refine lv_iconst (v := (0 : Int32)) hx9 hb d12_readsNode_28 (by decide) ?_
    refine lv_goto (tgt := 38) hx9 hb d12_readsNode_29 (by decide) ?_
    exact j12_readsNode_38 C F (0 : Int32)  r o18 _ _ _ hH (lv_sub hl [0] rfl) e
def f12_readsNode (F : Nat)  (h : Hp) : Option (Hp) :=
  if (h 69 ((2 : Int32)).toNatClampNeg) = (10 : Int32) then
    Option.bind (f12_faults F (3 : Int32) h) (fun o13 =>
      f12_readsNode_j16 F  o13)
  else
    f12_readsNode_j16 F  h
set_option maxRecDepth 20000 in
theorem c12_readsNode (l : Launch) (D : va_G) (ad : Nat → Nat) (cA : Nat → ClassId) (aK aV : Nat → Nat) (B0 : Nat) (hA : ce_Ad ad B0) (F : Nat)   (h : Hp) (r : Hp) (e : f12_readsNode F  h = some r) : ce_Ct l D ad cA B0 (ce_St aK aV B0) y12_readsNode b12_readsNode 2 none 11 267 0 0 [.ref (ad 68)] h none r := by
  refine ce_enter hA (by decide) rfl (Nat.le_of_ble_eq_true rfl) (fun p e0 s m below meth c ls C hH hl => ?_)
  have hl : lv_has ls 2 [(0, .ref (ad 68))] := hl
  have hx := C.1
  have hb := C.2.1
  have e : Option.bind _ some = some r := (congrArg (fun z => Option.bind z some) e).trans rfl
  unfold f12_readsNode at e
  refine lv_aload_n hx hb d12_readsNode_0 rfl (lv_at hl 0 rfl) ?_
  refine gf_12_7 C hH d12_readsNode_1 ?_
  refine lv_iconst (v := (2 : Int32)) hx hb d12_readsNode_4 (by decide) ?_
  refine ce_iald C hH lc_69.1 lc_69.2 (ce_in_vp (by decide)) d12_readsNode_5 ?_
  refine lv_bipush (v := (10 : Int32)) hx hb d12_readsNode_6 (by decide) ?_
  refine lv_icmp_ne (tgt := 16) hx hb d12_readsNode_8 (by decide) (fun hc8 => ?_) (fun hc8 => ?_)
  · have e := ce_if0 e hc8
    exact j12_readsNode_16 C F   r h _ _ _ hH (lv_sub hl [0] rfl) e
  · have e := ce_if1 e hc8
    refine lv_aload_n hx hb d12_readsNode_11 rfl (lv_at hl 0 rfl) ?_
    refine lv_iconst (v := (3 : Int32)) hx hb d12_readsNode_12 (by decide) ?_
    obtain ⟨o13, eo13, e⟩ := ce_bd e
    refine ce_callV (As := [.int (3 : Int32)]) (rest := []) C (ce_sok aK aV B0) hH (c12_faults l D ad cA aK aV B0 C.2.2.2.2.2.2.1 F (3 : Int32)  h o13 eo13) lo_68.1 lo_68.2.choose_spec rfl rfl mc12_faults ml_12_142 mi12_faults ms12_faults mI_12 (n := 1) (by decide) rfl ⟨Nat.le_of_ble_eq_true rfl, Nat.le_of_ble_eq_true rfl⟩ ⟨Nat.le_of_ble_eq_true rfl, Nat.le_of_ble_eq_true rfl⟩ hl.1 rfl (Nat.le_of_ble_eq_true rfl) d12_readsNode_13 (fun H locs hH => ?_)
    refine W.eq (g2 := F0 m 16 ls []) rfl ?_
    exact j12_readsNode_16 C F   r o13 _ _ _ hH (lv_sub hl [0] rfl) e
abbrev b12_readsEnd : ByteArray := prog_14_method_18_code
def y12_readsEnd : MethodName := ⟨cn_12, "readsEnd", "(I)I"⟩
theorem d12_readsEnd_0 : decode b12_readsEnd 0 = .ok (.aload_n 0, 1) := by decide +kernel
theorem d12_readsEnd_1 : decode b12_readsEnd 1 = .ok (.getfield 125, 3) := by decide +kernel
theorem d12_readsEnd_4 : decode b12_readsEnd 4 = .ok (.ifCond .ne 11, 3) := by decide +kernel
theorem d12_readsEnd_7 : decode b12_readsEnd 7 = .ok (.aload_n 0, 1) := by decide +kernel
theorem d12_readsEnd_8 : decode b12_readsEnd 8 = .ok (.getfield 115, 3) := by decide +kernel
theorem d12_readsEnd_11 : decode b12_readsEnd 11 = .ok (.iconst 1, 1) := by decide +kernel
theorem d12_readsEnd_12 : decode b12_readsEnd 12 = .ok (.if_icmp .eq 7, 3) := by decide +kernel
theorem d12_readsEnd_15 : decode b12_readsEnd 15 = .ok (.iconst (-1), 1) := by decide +kernel
theorem d12_readsEnd_16 : decode b12_readsEnd 16 = .ok (.goto 7, 3) := by decide +kernel
theorem d12_readsEnd_19 : decode b12_readsEnd 19 = .ok (.aload_n 0, 1) := by decide +kernel
theorem d12_readsEnd_20 : decode b12_readsEnd 20 = .ok (.invokevirtual 181, 3) := by decide +kernel
theorem d12_readsEnd_23 : decode b12_readsEnd 23 = .ok (.istore_n 2, 1) := by decide +kernel
theorem d12_readsEnd_24 : decode b12_readsEnd 24 = .ok (.aload_n 0, 1) := by decide +kernel
theorem d12_readsEnd_25 : decode b12_readsEnd 25 = .ok (.getfield 125, 3) := by decide +kernel
theorem d12_readsEnd_28 : decode b12_readsEnd 28 = .ok (.ifCond .ne 26, 3) := by decide +kernel
theorem d12_readsEnd_31 : decode b12_readsEnd 31 = .ok (.aload_n 0, 1) := by decide +kernel
theorem d12_readsEnd_32 : decode b12_readsEnd 32 = .ok (.getfield 115, 3) := by decide +kernel
theorem d12_readsEnd_35 : decode b12_readsEnd 35 = .ok (.iconst 1, 1) := by decide +kernel
theorem d12_readsEnd_36 : decode b12_readsEnd 36 = .ok (.if_icmp .ne 18, 3) := by decide +kernel
theorem d12_readsEnd_39 : decode b12_readsEnd 39 = .ok (.iload_n 2, 1) := by decide +kernel
theorem d12_readsEnd_40 : decode b12_readsEnd 40 = .ok (.iconst (-1), 1) := by decide +kernel
theorem d12_readsEnd_41 : decode b12_readsEnd 41 = .ok (.if_icmp .eq 8, 3) := by decide +kernel
theorem d12_readsEnd_44 : decode b12_readsEnd 44 = .ok (.iload_n 2, 1) := by decide +kernel
theorem d12_readsEnd_45 : decode b12_readsEnd 45 = .ok (.iload_n 1, 1) := by decide +kernel
theorem d12_readsEnd_46 : decode b12_readsEnd 46 = .ok (.if_icmp .ne 8, 3) := by decide +kernel
theorem d12_readsEnd_49 : decode b12_readsEnd 49 = .ok (.aload_n 0, 1) := by decide +kernel
theorem d12_readsEnd_50 : decode b12_readsEnd 50 = .ok (.iconst 2, 1) := by decide +kernel
theorem d12_readsEnd_51 : decode b12_readsEnd 51 = .ok (.invokevirtual 142, 3) := by decide +kernel
theorem d12_readsEnd_54 : decode b12_readsEnd 54 = .ok (.aload_n 0, 1) := by decide +kernel
theorem d12_readsEnd_55 : decode b12_readsEnd 55 = .ok (.aload_n 0, 1) := by decide +kernel
theorem d12_readsEnd_56 : decode b12_readsEnd 56 = .ok (.getfield 125, 3) := by decide +kernel
theorem d12_readsEnd_59 : decode b12_readsEnd 59 = .ok (.ifCond .ne 11, 3) := by decide +kernel
theorem d12_readsEnd_62 : decode b12_readsEnd 62 = .ok (.aload_n 0, 1) := by decide +kernel
theorem d12_readsEnd_63 : decode b12_readsEnd 63 = .ok (.getfield 115, 3) := by decide +kernel
theorem d12_readsEnd_66 : decode b12_readsEnd 66 = .ok (.iconst 1, 1) := by decide +kernel
theorem d12_readsEnd_67 : decode b12_readsEnd 67 = .ok (.if_icmp .ne 7, 3) := by decide +kernel
theorem d12_readsEnd_70 : decode b12_readsEnd 70 = .ok (.iconst 1, 1) := by decide +kernel
theorem d12_readsEnd_71 : decode b12_readsEnd 71 = .ok (.goto 4, 3) := by decide +kernel
theorem d12_readsEnd_74 : decode b12_readsEnd 74 = .ok (.iconst 0, 1) := by decide +kernel
theorem d12_readsEnd_75 : decode b12_readsEnd 75 = .ok (.invokevirtual 149, 3) := by decide +kernel
theorem d12_readsEnd_78 : decode b12_readsEnd 78 = .ok (.iconst 0, 1) := by decide +kernel
theorem d12_readsEnd_79 : decode b12_readsEnd 79 = .ok (.iload_n 2, 1) := by decide +kernel
theorem d12_readsEnd_80 : decode b12_readsEnd 80 = .ok (.invokestatic 189, 3) := by decide +kernel
theorem d12_readsEnd_83 : decode b12_readsEnd 83 = .ok (.ireturn, 1) := by decide +kernel
theorem ml_12_189 : Cond.methodLink cn_12 189 Lib.Math.max.name ∈ ce_cm := ce_cm_of (List.mem_of_getElem? (i := 1338) (by decide +kernel)) (by decide +kernel)
def f12_readsEnd_j49 (F : Nat) (x2 : Int32) (h : Hp) : Option (Int32 × Hp) :=
  Option.bind (f12_faults F (2 : Int32) h) (fun o51 =>
    if (o51 68 11) = 0 then
      if (o51 68 9) = (1 : Int32) then
        Option.bind (f12_passes F (1 : Int32) o51) (fun o75 =>
          some ((if (0 : Int32) < x2 then x2 else (0 : Int32)), o75))
      else
        Option.bind (f12_passes F (0 : Int32) o51) (fun o75 =>
          some ((if (0 : Int32) < x2 then x2 else (0 : Int32)), o75))
    else
      Option.bind (f12_passes F (1 : Int32) o51) (fun o75 =>
        some ((if (0 : Int32) < x2 then x2 else (0 : Int32)), o75)))
set_option maxRecDepth 20000 in
theorem j12_readsEnd_49 (C : ce_Cx p s m args c meth b12_readsEnd 3 (some .int) cn_12 D ad cA B0 (ce_St aK aV B0)) (F : Nat) (x2 : Int32)  (r : Int32 × Hp) (h : Hp) (H : Heap) (locs : List Loc) (ls : Array Slot) (hH : ce_H D ad cA B0 [] s h H locs) (hl : lv_has ls 3 [(0, .ref (ad 68)), (2, .int x2)]) (e : Option.bind (f12_readsEnd_j49 F x2 h) some = some r) : W p l e0 { frames := 4, cells := 0, slots := 0, locals := 88 } s m args below meth c H locs 0 0 (MQ below (ce_Q D ad cA B0 (ce_St aK aV B0) (some (.int r.1)) r.2) args s 0 0 (fun q => B0 ≤ q)) (F0 m 49 ls []) := by
  have hx9 := C.1
  have hb := C.2.1
  unfold f12_readsEnd_j49 at e
  refine lv_aload_n hx9 hb d12_readsEnd_49 rfl (lv_at hl 0 rfl) ?_
  refine lv_iconst (v := (2 : Int32)) hx9 hb d12_readsEnd_50 (by decide) ?_
  obtain ⟨o51, eo51, e⟩ := ce_bd e
  refine ce_callV (As := [.int (2 : Int32)]) (rest := []) C (ce_sok aK aV B0) hH (c12_faults l D ad cA aK aV B0 C.2.2.2.2.2.2.1 F (2 : Int32)  h o51 eo51) lo_68.1 lo_68.2.choose_spec rfl rfl mc12_faults ml_12_142 mi12_faults ms12_faults mI_12 (n := 1) (by decide) rfl ⟨Nat.le_of_ble_eq_true rfl, Nat.le_of_ble_eq_true rfl⟩ ⟨Nat.le_of_ble_eq_true rfl, Nat.le_of_ble_eq_true rfl⟩ hl.1 rfl (Nat.le_of_ble_eq_true rfl) d12_readsEnd_51 (fun H locs hH => ?_)
  refine W.eq (g2 := F0 m 54 ls []) rfl ?_
  refine lv_aload_n hx9 hb d12_readsEnd_54 rfl (lv_at hl 0 rfl) ?_
  refine lv_aload_n hx9 hb d12_readsEnd_55 rfl (lv_at hl 0 rfl) ?_
  refine gf_12_125 C hH d12_readsEnd_56 ?_
  refine lv_if_ne (tgt := 70) hx9 hb d12_readsEnd_59 (by decide) (fun hc59 => ?_) (fun hc59 => ?_)
  · have e := ce_if0 e hc59
    refine lv_iconst (v := (1 : Int32)) hx9 hb d12_readsEnd_70 (by decide) ?_
    refine lv_goto (tgt := 75) hx9 hb d12_readsEnd_71 (by decide) ?_
    obtain ⟨o75, eo75, e⟩ := ce_bd e
    refine ce_callV (As := [.int (1 : Int32)]) (rest := []) C (ce_sok aK aV B0) hH (c12_passes l D ad cA aK aV B0 C.2.2.2.2.2.2.1 F (1 : Int32)  o51 o75 eo75) lo_68.1 lo_68.2.choose_spec rfl rfl mc12_passes ml_12_149 mi12_passes ms12_passes mI_12 (n := 1) (by decide) rfl ⟨Nat.le_of_ble_eq_true rfl, Nat.le_of_ble_eq_true rfl⟩ ⟨Nat.le_of_ble_eq_true rfl, Nat.le_of_ble_eq_true rfl⟩ hl.1 rfl (Nat.le_of_ble_eq_true rfl) d12_readsEnd_75 (fun H locs hH => ?_)
    refine W.eq (g2 := F0 m 78 ls []) rfl ?_
    refine lv_iconst (v := (0 : Int32)) hx9 hb d12_readsEnd_78 (by decide) ?_
    refine lv_iload_n hx9 hb d12_readsEnd_79 rfl (lv_at hl 1 rfl) ?_
    refine va_mmax hx9 hb (C.2.2.1.trans hl.1.symm) C.2.2.2.1 (C.2.2.2.2.1 _ ml_12_189) (C.2.2.2.2.1 _ mt_Mmax) (C.2.2.2.2.1 _ mI_M) (C.2.2.2.2.1 _ mc_Mmax) (Nat.le_of_ble_eq_true rfl) (Nat.le_of_ble_eq_true rfl) (Nat.le_of_ble_eq_true rfl) (Nat.le_of_ble_eq_true rfl) d12_readsEnd_80 ?_
    exact ce_iretE C (ce_sok aK aV B0) hH e d12_readsEnd_83
  · have e := ce_if1 e hc59
    refine lv_aload_n hx9 hb d12_readsEnd_62 rfl (lv_at hl 0 rfl) ?_
    refine gf_12_115 C hH d12_readsEnd_63 ?_
    refine lv_iconst (v := (1 : Int32)) hx9 hb d12_readsEnd_66 (by decide) ?_
    refine lv_icmp_ne (tgt := 74) hx9 hb d12_readsEnd_67 (by decide) (fun hc67 => ?_) (fun hc67 => ?_)
    · have e := ce_if0 e hc67
      refine lv_iconst (v := (0 : Int32)) hx9 hb d12_readsEnd_74 (by decide) ?_
      obtain ⟨o75, eo75, e⟩ := ce_bd e
      refine ce_callV (As := [.int (0 : Int32)]) (rest := []) C (ce_sok aK aV B0) hH (c12_passes l D ad cA aK aV B0 C.2.2.2.2.2.2.1 F (0 : Int32)  o51 o75 eo75) lo_68.1 lo_68.2.choose_spec rfl rfl mc12_passes ml_12_149 mi12_passes ms12_passes mI_12 (n := 1) (by decide) rfl ⟨Nat.le_of_ble_eq_true rfl, Nat.le_of_ble_eq_true rfl⟩ ⟨Nat.le_of_ble_eq_true rfl, Nat.le_of_ble_eq_true rfl⟩ hl.1 rfl (Nat.le_of_ble_eq_true rfl) d12_readsEnd_75 (fun H locs hH => ?_)
      refine W.eq (g2 := F0 m 78 ls []) rfl ?_
      refine lv_iconst (v := (0 : Int32)) hx9 hb d12_readsEnd_78 (by decide) ?_
      refine lv_iload_n hx9 hb d12_readsEnd_79 rfl (lv_at hl 1 rfl) ?_
      refine va_mmax hx9 hb (C.2.2.1.trans hl.1.symm) C.2.2.2.1 (C.2.2.2.2.1 _ ml_12_189) (C.2.2.2.2.1 _ mt_Mmax) (C.2.2.2.2.1 _ mI_M) (C.2.2.2.2.1 _ mc_Mmax) (Nat.le_of_ble_eq_true rfl) (Nat.le_of_ble_eq_true rfl) (Nat.le_of_ble_eq_true rfl) (Nat.le_of_ble_eq_true rfl) d12_readsEnd_80 ?_
      exact ce_iretE C (ce_sok aK aV B0) hH e d12_readsEnd_83
    · have e := ce_if1 e hc67
      refine lv_iconst (v := (1 : Int32)) hx9 hb d12_readsEnd_70 (by decide) ?_
      refine lv_goto (tgt := 75) hx9 hb d12_readsEnd_71 (by decide) ?_
      obtain ⟨o75, eo75, e⟩ := ce_bd e
      refine ce_callV (As := [.int (1 : Int32)]) (rest := []) C (ce_sok aK aV B0) hH (c12_passes l D ad cA aK aV B0 C.2.2.2.2.2.2.1 F (1 : Int32)  o51 o75 eo75) lo_68.1 lo_68.2.choose_spec rfl rfl mc12_passes ml_12_149 mi12_passes ms12_passes mI_12 (n := 1) (by decide) rfl ⟨Nat.le_of_ble_eq_true rfl, Nat.le_of_ble_eq_true rfl⟩ ⟨Nat.le_of_ble_eq_true rfl, Nat.le_of_ble_eq_true rfl⟩ hl.1 rfl (Nat.le_of_ble_eq_true rfl) d12_readsEnd_75 (fun H locs hH => ?_)
      refine W.eq (g2 := F0 m 78 ls []) rfl ?_
      refine lv_iconst (v := (0 : Int32)) hx9 hb d12_readsEnd_78 (by decide) ?_
      refine lv_iload_n hx9 hb d12_readsEnd_79 rfl (lv_at hl 1 rfl) ?_
      refine va_mmax hx9 hb (C.2.2.1.trans hl.1.symm) C.2.2.2.1 (C.2.2.2.2.1 _ ml_12_189) (C.2.2.2.2.1 _ mt_Mmax) (C.2.2.2.2.1 _ mI_M) (C.2.2.2.2.1 _ mc_Mmax) (Nat.le_of_ble_eq_true rfl) (Nat.le_of_ble_eq_true rfl) (Nat.le_of_ble_eq_true rfl) (Nat.le_of_ble_eq_true rfl) d12_readsEnd_80 ?_
      exact ce_iretE C (ce_sok aK aV B0) hH e d12_readsEnd_83
def f12_readsEnd_j23 (F : Nat) (x1 : Int32) (s0 : Int32) (h : Hp) : Option (Int32 × Hp) :=
  if (h 68 11) = 0 then
    if (h 68 9) = (1 : Int32) then
      if s0 = (-1 : Int32) then
        f12_readsEnd_j49 F s0 h
      else
        if s0 = x1 then
          f12_readsEnd_j49 F s0 h
        else
          if (h 68 11) = 0 then
            if (h 68 9) = (1 : Int32) then
              Option.bind (f12_passes F (1 : Int32) h) (fun o75 =>
                some ((if (0 : Int32) < s0 then s0 else (0 : Int32)), o75))
            else
              Option.bind (f12_passes F (0 : Int32) h) (fun o75 =>
                some ((if (0 : Int32) < s0 then s0 else (0 : Int32)), o75))
          else
            Option.bind (f12_passes F (1 : Int32) h) (fun o75 =>
              some ((if (0 : Int32) < s0 then s0 else (0 : Int32)), o75))
    else
      if (h 68 11) = 0 then
        if (h 68 9) = (1 : Int32) then
          Option.bind (f12_passes F (1 : Int32) h) (fun o75 =>
            some ((if (0 : Int32) < s0 then s0 else (0 : Int32)), o75))
        else
          Option.bind (f12_passes F (0 : Int32) h) (fun o75 =>
            some ((if (0 : Int32) < s0 then s0 else (0 : Int32)), o75))
      else
        Option.bind (f12_passes F (1 : Int32) h) (fun o75 =>
          some ((if (0 : Int32) < s0 then s0 else (0 : Int32)), o75))
  else
    if (h 68 11) = 0 then
      if (h 68 9) = (1 : Int32) then
        Option.bind (f12_passes F (1 : Int32) h) (fun o75 =>
          some ((if (0 : Int32) < s0 then s0 else (0 : Int32)), o75))
      else
        Option.bind (f12_passes F (0 : Int32) h) (fun o75 =>
          some ((if (0 : Int32) < s0 then s0 else (0 : Int32)), o75))
    else
      Option.bind (f12_passes F (1 : Int32) h) (fun o75 =>
        some ((if (0 : Int32) < s0 then s0 else (0 : Int32)), o75))
set_option maxRecDepth 20000 in
theorem j12_readsEnd_23 (C : ce_Cx p s m args c meth b12_readsEnd 3 (some .int) cn_12 D ad cA B0 (ce_St aK aV B0)) (F : Nat) (x1 : Int32) (s0 : Int32)  (r : Int32 × Hp) (h : Hp) (H : Heap) (locs : List Loc) (ls : Array Slot) (hH : ce_H D ad cA B0 [] s h H locs) (hl : lv_has ls 3 [(0, .ref (ad 68)), (1, .int x1)]) (e : Option.bind (f12_readsEnd_j23 F x1 s0 h) some = some r) : W p l e0 { frames := 4, cells := 0, slots := 0, locals := 88 } s m args below meth c H locs 0 0 (MQ below (ce_Q D ad cA B0 (ce_St aK aV B0) (some (.int r.1)) r.2) args s 0 0 (fun q => B0 ≤ q)) (F0 m 23 ls [.int s0]) := by
  have hx9 := C.1
  have hb := C.2.1
  unfold f12_readsEnd_j23 at e
  refine lv_istore_n (lv' := [(2, .int s0), (0, .ref (ad 68)), (1, .int x1)]) hx9 hb d12_readsEnd_23 rfl hl (by decide) rfl (fun ls hl => ?_)
  refine lv_aload_n hx9 hb d12_readsEnd_24 rfl (lv_at hl 1 rfl) ?_
  refine gf_12_125 C hH d12_readsEnd_25 ?_
  refine lv_if_ne (tgt := 54) hx9 hb d12_readsEnd_28 (by decide) (fun hc28 => ?_) (fun hc28 => ?_)
  · have e := ce_if0 e hc28
    refine lv_aload_n hx9 hb d12_readsEnd_54 rfl (lv_at hl 1 rfl) ?_
    refine lv_aload_n hx9 hb d12_readsEnd_55 rfl (lv_at hl 1 rfl) ?_
    refine gf_12_125 C hH d12_readsEnd_56 ?_
    refine lv_if_ne (tgt := 70) hx9 hb d12_readsEnd_59 (by decide) (fun hc59 => ?_) (fun hc59 => ?_)
    · have e := ce_if0 e hc59
      refine lv_iconst (v := (1 : Int32)) hx9 hb d12_readsEnd_70 (by decide) ?_
      refine lv_goto (tgt := 75) hx9 hb d12_readsEnd_71 (by decide) ?_
      obtain ⟨o75, eo75, e⟩ := ce_bd e
      refine ce_callV (As := [.int (1 : Int32)]) (rest := []) C (ce_sok aK aV B0) hH (c12_passes l D ad cA aK aV B0 C.2.2.2.2.2.2.1 F (1 : Int32)  h o75 eo75) lo_68.1 lo_68.2.choose_spec rfl rfl mc12_passes ml_12_149 mi12_passes ms12_passes mI_12 (n := 1) (by decide) rfl ⟨Nat.le_of_ble_eq_true rfl, Nat.le_of_ble_eq_true rfl⟩ ⟨Nat.le_of_ble_eq_true rfl, Nat.le_of_ble_eq_true rfl⟩ hl.1 rfl (Nat.le_of_ble_eq_true rfl) d12_readsEnd_75 (fun H locs hH => ?_)
      refine W.eq (g2 := F0 m 78 ls []) rfl ?_
      refine lv_iconst (v := (0 : Int32)) hx9 hb d12_readsEnd_78 (by decide) ?_
      refine lv_iload_n hx9 hb d12_readsEnd_79 rfl (lv_at hl 0 rfl) ?_
      refine va_mmax hx9 hb (C.2.2.1.trans hl.1.symm) C.2.2.2.1 (C.2.2.2.2.1 _ ml_12_189) (C.2.2.2.2.1 _ mt_Mmax) (C.2.2.2.2.1 _ mI_M) (C.2.2.2.2.1 _ mc_Mmax) (Nat.le_of_ble_eq_true rfl) (Nat.le_of_ble_eq_true rfl) (Nat.le_of_ble_eq_true rfl) (Nat.le_of_ble_eq_true rfl) d12_readsEnd_80 ?_
      exact ce_iretE C (ce_sok aK aV B0) hH e d12_readsEnd_83
    · have e := ce_if1 e hc59
      refine lv_aload_n hx9 hb d12_readsEnd_62 rfl (lv_at hl 1 rfl) ?_
      refine gf_12_115 C hH d12_readsEnd_63 ?_
      refine lv_iconst (v := (1 : Int32)) hx9 hb d12_readsEnd_66 (by decide) ?_
      refine lv_icmp_ne (tgt := 74) hx9 hb d12_readsEnd_67 (by decide) (fun hc67 => ?_) (fun hc67 => ?_)
      · have e := ce_if0 e hc67
        refine lv_iconst (v := (0 : Int32)) hx9 hb d12_readsEnd_74 (by decide) ?_
        obtain ⟨o75, eo75, e⟩ := ce_bd e
        refine ce_callV (As := [.int (0 : Int32)]) (rest := []) C (ce_sok aK aV B0) hH (c12_passes l D ad cA aK aV B0 C.2.2.2.2.2.2.1 F (0 : Int32)  h o75 eo75) lo_68.1 lo_68.2.choose_spec rfl rfl mc12_passes ml_12_149 mi12_passes ms12_passes mI_12 (n := 1) (by decide) rfl ⟨Nat.le_of_ble_eq_true rfl, Nat.le_of_ble_eq_true rfl⟩ ⟨Nat.le_of_ble_eq_true rfl, Nat.le_of_ble_eq_true rfl⟩ hl.1 rfl (Nat.le_of_ble_eq_true rfl) d12_readsEnd_75 (fun H locs hH => ?_)
        refine W.eq (g2 := F0 m 78 ls []) rfl ?_
        refine lv_iconst (v := (0 : Int32)) hx9 hb d12_readsEnd_78 (by decide) ?_
        refine lv_iload_n hx9 hb d12_readsEnd_79 rfl (lv_at hl 0 rfl) ?_
        refine va_mmax hx9 hb (C.2.2.1.trans hl.1.symm) C.2.2.2.1 (C.2.2.2.2.1 _ ml_12_189) (C.2.2.2.2.1 _ mt_Mmax) (C.2.2.2.2.1 _ mI_M) (C.2.2.2.2.1 _ mc_Mmax) (Nat.le_of_ble_eq_true rfl) (Nat.le_of_ble_eq_true rfl) (Nat.le_of_ble_eq_true rfl) (Nat.le_of_ble_eq_true rfl) d12_readsEnd_80 ?_
        exact ce_iretE C (ce_sok aK aV B0) hH e d12_readsEnd_83
      · have e := ce_if1 e hc67
        refine lv_iconst (v := (1 : Int32)) hx9 hb d12_readsEnd_70 (by decide) ?_
        refine lv_goto (tgt := 75) hx9 hb d12_readsEnd_71 (by decide) ?_
        obtain ⟨o75, eo75, e⟩ := ce_bd e
        refine ce_callV (As := [.int (1 : Int32)]) (rest := []) C (ce_sok aK aV B0) hH (c12_passes l D ad cA aK aV B0 C.2.2.2.2.2.2.1 F (1 : Int32)  h o75 eo75) lo_68.1 lo_68.2.choose_spec rfl rfl mc12_passes ml_12_149 mi12_passes ms12_passes mI_12 (n := 1) (by decide) rfl ⟨Nat.le_of_ble_eq_true rfl, Nat.le_of_ble_eq_true rfl⟩ ⟨Nat.le_of_ble_eq_true rfl, Nat.le_of_ble_eq_true rfl⟩ hl.1 rfl (Nat.le_of_ble_eq_true rfl) d12_readsEnd_75 (fun H locs hH => ?_)
        refine W.eq (g2 := F0 m 78 ls []) rfl ?_
        refine lv_iconst (v := (0 : Int32)) hx9 hb d12_readsEnd_78 (by decide) ?_
        refine lv_iload_n hx9 hb d12_readsEnd_79 rfl (lv_at hl 0 rfl) ?_
        refine va_mmax hx9 hb (C.2.2.1.trans hl.1.symm) C.2.2.2.1 (C.2.2.2.2.1 _ ml_12_189) (C.2.2.2.2.1 _ mt_Mmax) (C.2.2.2.2.1 _ mI_M) (C.2.2.2.2.1 _ mc_Mmax) (Nat.le_of_ble_eq_true rfl) (Nat.le_of_ble_eq_true rfl) (Nat.le_of_ble_eq_true rfl) (Nat.le_of_ble_eq_true rfl) d12_readsEnd_80 ?_
        exact ce_iretE C (ce_sok aK aV B0) hH e d12_readsEnd_83
  · have e := ce_if1 e hc28
    refine lv_aload_n hx9 hb d12_readsEnd_31 rfl (lv_at hl 1 rfl) ?_
    refine gf_12_115 C hH d12_readsEnd_32 ?_
    refine lv_iconst (v := (1 : Int32)) hx9 hb d12_readsEnd_35 (by decide) ?_
    refine lv_icmp_ne (tgt := 54) hx9 hb d12_readsEnd_36 (by decide) (fun hc36 => ?_) (fun hc36 => ?_)
    · have e := ce_if0 e hc36
      refine lv_aload_n hx9 hb d12_readsEnd_54 rfl (lv_at hl 1 rfl) ?_
      refine lv_aload_n hx9 hb d12_readsEnd_55 rfl (lv_at hl 1 rfl) ?_
      refine gf_12_125 C hH d12_readsEnd_56 ?_
      refine lv_if_ne (tgt := 70) hx9 hb d12_readsEnd_59 (by decide) (fun hc59 => ?_) (fun hc59 => ?_)
      · have e := ce_if0 e hc59
        refine lv_iconst (v := (1 : Int32)) hx9 hb d12_readsEnd_70 (by decide) ?_
        refine lv_goto (tgt := 75) hx9 hb d12_readsEnd_71 (by decide) ?_
        obtain ⟨o75, eo75, e⟩ := ce_bd e
        refine ce_callV (As := [.int (1 : Int32)]) (rest := []) C (ce_sok aK aV B0) hH (c12_passes l D ad cA aK aV B0 C.2.2.2.2.2.2.1 F (1 : Int32)  h o75 eo75) lo_68.1 lo_68.2.choose_spec rfl rfl mc12_passes ml_12_149 mi12_passes ms12_passes mI_12 (n := 1) (by decide) rfl ⟨Nat.le_of_ble_eq_true rfl, Nat.le_of_ble_eq_true rfl⟩ ⟨Nat.le_of_ble_eq_true rfl, Nat.le_of_ble_eq_true rfl⟩ hl.1 rfl (Nat.le_of_ble_eq_true rfl) d12_readsEnd_75 (fun H locs hH => ?_)
        refine W.eq (g2 := F0 m 78 ls []) rfl ?_
        refine lv_iconst (v := (0 : Int32)) hx9 hb d12_readsEnd_78 (by decide) ?_
        refine lv_iload_n hx9 hb d12_readsEnd_79 rfl (lv_at hl 0 rfl) ?_
        refine va_mmax hx9 hb (C.2.2.1.trans hl.1.symm) C.2.2.2.1 (C.2.2.2.2.1 _ ml_12_189) (C.2.2.2.2.1 _ mt_Mmax) (C.2.2.2.2.1 _ mI_M) (C.2.2.2.2.1 _ mc_Mmax) (Nat.le_of_ble_eq_true rfl) (Nat.le_of_ble_eq_true rfl) (Nat.le_of_ble_eq_true rfl) (Nat.le_of_ble_eq_true rfl) d12_readsEnd_80 ?_
        exact ce_iretE C (ce_sok aK aV B0) hH e d12_readsEnd_83
      · have e := ce_if1 e hc59
        refine lv_aload_n hx9 hb d12_readsEnd_62 rfl (lv_at hl 1 rfl) ?_
        refine gf_12_115 C hH d12_readsEnd_63 ?_
        refine lv_iconst (v := (1 : Int32)) hx9 hb d12_readsEnd_66 (by decide) ?_
        refine lv_icmp_ne (tgt := 74) hx9 hb d12_readsEnd_67 (by decide) (fun hc67 => ?_) (fun hc67 => ?_)
        · have e := ce_if0 e hc67
          refine lv_iconst (v := (0 : Int32)) hx9 hb d12_readsEnd_74 (by decide) ?_
          obtain ⟨o75, eo75, e⟩ := ce_bd e
          refine ce_callV (As := [.int (0 : Int32)]) (rest := []) C (ce_sok aK aV B0) hH (c12_passes l D ad cA aK aV B0 C.2.2.2.2.2.2.1 F (0 : Int32)  h o75 eo75) lo_68.1 lo_68.2.choose_spec rfl rfl mc12_passes ml_12_149 mi12_passes ms12_passes mI_12 (n := 1) (by decide) rfl ⟨Nat.le_of_ble_eq_true rfl, Nat.le_of_ble_eq_true rfl⟩ ⟨Nat.le_of_ble_eq_true rfl, Nat.le_of_ble_eq_true rfl⟩ hl.1 rfl (Nat.le_of_ble_eq_true rfl) d12_readsEnd_75 (fun H locs hH => ?_)
          refine W.eq (g2 := F0 m 78 ls []) rfl ?_
          refine lv_iconst (v := (0 : Int32)) hx9 hb d12_readsEnd_78 (by decide) ?_
          refine lv_iload_n hx9 hb d12_readsEnd_79 rfl (lv_at hl 0 rfl) ?_
          refine va_mmax hx9 hb (C.2.2.1.trans hl.1.symm) C.2.2.2.1 (C.2.2.2.2.1 _ ml_12_189) (C.2.2.2.2.1 _ mt_Mmax) (C.2.2.2.2.1 _ mI_M) (C.2.2.2.2.1 _ mc_Mmax) (Nat.le_of_ble_eq_true rfl) (Nat.le_of_ble_eq_true rfl) (Nat.le_of_ble_eq_true rfl) (Nat.le_of_ble_eq_true rfl) d12_readsEnd_80 ?_
          exact ce_iretE C (ce_sok aK aV B0) hH e d12_readsEnd_83
        · have e := ce_if1 e hc67
          refine lv_iconst (v := (1 : Int32)) hx9 hb d12_readsEnd_70 (by decide) ?_
          refine lv_goto (tgt := 75) hx9 hb d12_readsEnd_71 (by decide) ?_
          obtain ⟨o75, eo75, e⟩ := ce_bd e
          refine ce_callV (As := [.int (1 : Int32)]) (rest := []) C (ce_sok aK aV B0) hH (c12_passes l D ad cA aK aV B0 C.2.2.2.2.2.2.1 F (1 : Int32)  h o75 eo75) lo_68.1 lo_68.2.choose_spec rfl rfl mc12_passes ml_12_149 mi12_passes ms12_passes mI_12 (n := 1) (by decide) rfl ⟨Nat.le_of_ble_eq_true rfl, Nat.le_of_ble_eq_true rfl⟩ ⟨Nat.le_of_ble_eq_true rfl, Nat.le_of_ble_eq_true rfl⟩ hl.1 rfl (Nat.le_of_ble_eq_true rfl) d12_readsEnd_75 (fun H locs hH => ?_)
          refine W.eq (g2 := F0 m 78 ls []) rfl ?_
          refine lv_iconst (v := (0 : Int32)) hx9 hb d12_readsEnd_78 (by decide) ?_
          refine lv_iload_n hx9 hb d12_readsEnd_79 rfl (lv_at hl 0 rfl) ?_
          refine va_mmax hx9 hb (C.2.2.1.trans hl.1.symm) C.2.2.2.1 (C.2.2.2.2.1 _ ml_12_189) (C.2.2.2.2.1 _ mt_Mmax) (C.2.2.2.2.1 _ mI_M) (C.2.2.2.2.1 _ mc_Mmax) (Nat.le_of_ble_eq_true rfl) (Nat.le_of_ble_eq_true rfl) (Nat.le_of_ble_eq_true rfl) (Nat.le_of_ble_eq_true rfl) d12_readsEnd_80 ?_
          exact ce_iretE C (ce_sok aK aV B0) hH e d12_readsEnd_83
    · have e := ce_if1 e hc36
      refine lv_iload_n hx9 hb d12_readsEnd_39 rfl (lv_at hl 0 rfl) ?_
      refine lv_iconst (v := (-1 : Int32)) hx9 hb d12_readsEnd_40 (by decide) ?_
      refine lv_icmp_eq (tgt := 49) hx9 hb d12_readsEnd_41 (by decide) (fun hc41 => ?_) (fun hc41 => ?_)
      · have e := ce_if1 e hc41
        exact j12_readsEnd_49 C F s0  r h _ _ _ hH (lv_sub hl [1, 0] rfl) e
      · have e := ce_if0 e hc41
        refine lv_iload_n hx9 hb d12_readsEnd_44 rfl (lv_at hl 0 rfl) ?_
        refine lv_iload_n hx9 hb d12_readsEnd_45 rfl (lv_at hl 2 rfl) ?_
        refine lv_icmp_ne (tgt := 54) hx9 hb d12_readsEnd_46 (by decide) (fun hc46 => ?_) (fun hc46 => ?_)
        · have e := ce_if0 e hc46
          refine lv_aload_n hx9 hb d12_readsEnd_54 rfl (lv_at hl 1 rfl) ?_
          refine lv_aload_n hx9 hb d12_readsEnd_55 rfl (lv_at hl 1 rfl) ?_
          refine gf_12_125 C hH d12_readsEnd_56 ?_
          refine lv_if_ne (tgt := 70) hx9 hb d12_readsEnd_59 (by decide) (fun hc59 => ?_) (fun hc59 => ?_)
          · have e := ce_if0 e hc59
            refine lv_iconst (v := (1 : Int32)) hx9 hb d12_readsEnd_70 (by decide) ?_
            refine lv_goto (tgt := 75) hx9 hb d12_readsEnd_71 (by decide) ?_
            obtain ⟨o75, eo75, e⟩ := ce_bd e
            refine ce_callV (As := [.int (1 : Int32)]) (rest := []) C (ce_sok aK aV B0) hH (c12_passes l D ad cA aK aV B0 C.2.2.2.2.2.2.1 F (1 : Int32)  h o75 eo75) lo_68.1 lo_68.2.choose_spec rfl rfl mc12_passes ml_12_149 mi12_passes ms12_passes mI_12 (n := 1) (by decide) rfl ⟨Nat.le_of_ble_eq_true rfl, Nat.le_of_ble_eq_true rfl⟩ ⟨Nat.le_of_ble_eq_true rfl, Nat.le_of_ble_eq_true rfl⟩ hl.1 rfl (Nat.le_of_ble_eq_true rfl) d12_readsEnd_75 (fun H locs hH => ?_)
            refine W.eq (g2 := F0 m 78 ls []) rfl ?_
            refine lv_iconst (v := (0 : Int32)) hx9 hb d12_readsEnd_78 (by decide) ?_
            refine lv_iload_n hx9 hb d12_readsEnd_79 rfl (lv_at hl 0 rfl) ?_
            refine va_mmax hx9 hb (C.2.2.1.trans hl.1.symm) C.2.2.2.1 (C.2.2.2.2.1 _ ml_12_189) (C.2.2.2.2.1 _ mt_Mmax) (C.2.2.2.2.1 _ mI_M) (C.2.2.2.2.1 _ mc_Mmax) (Nat.le_of_ble_eq_true rfl) (Nat.le_of_ble_eq_true rfl) (Nat.le_of_ble_eq_true rfl) (Nat.le_of_ble_eq_true rfl) d12_readsEnd_80 ?_
            exact ce_iretE C (ce_sok aK aV B0) hH e d12_readsEnd_83
          · have e := ce_if1 e hc59
            refine lv_aload_n hx9 hb d12_readsEnd_62 rfl (lv_at hl 1 rfl) ?_
            refine gf_12_115 C hH d12_readsEnd_63 ?_
            refine lv_iconst (v := (1 : Int32)) hx9 hb d12_readsEnd_66 (by decide) ?_
            refine lv_icmp_ne (tgt := 74) hx9 hb d12_readsEnd_67 (by decide) (fun hc67 => ?_) (fun hc67 => ?_)
            · have e := ce_if0 e hc67
              refine lv_iconst (v := (0 : Int32)) hx9 hb d12_readsEnd_74 (by decide) ?_
              obtain ⟨o75, eo75, e⟩ := ce_bd e
              refine ce_callV (As := [.int (0 : Int32)]) (rest := []) C (ce_sok aK aV B0) hH (c12_passes l D ad cA aK aV B0 C.2.2.2.2.2.2.1 F (0 : Int32)  h o75 eo75) lo_68.1 lo_68.2.choose_spec rfl rfl mc12_passes ml_12_149 mi12_passes ms12_passes mI_12 (n := 1) (by decide) rfl ⟨Nat.le_of_ble_eq_true rfl, Nat.le_of_ble_eq_true rfl⟩ ⟨Nat.le_of_ble_eq_true rfl, Nat.le_of_ble_eq_true rfl⟩ hl.1 rfl (Nat.le_of_ble_eq_true rfl) d12_readsEnd_75 (fun H locs hH => ?_)
              refine W.eq (g2 := F0 m 78 ls []) rfl ?_
              refine lv_iconst (v := (0 : Int32)) hx9 hb d12_readsEnd_78 (by decide) ?_
              refine lv_iload_n hx9 hb d12_readsEnd_79 rfl (lv_at hl 0 rfl) ?_
              refine va_mmax hx9 hb (C.2.2.1.trans hl.1.symm) C.2.2.2.1 (C.2.2.2.2.1 _ ml_12_189) (C.2.2.2.2.1 _ mt_Mmax) (C.2.2.2.2.1 _ mI_M) (C.2.2.2.2.1 _ mc_Mmax) (Nat.le_of_ble_eq_true rfl) (Nat.le_of_ble_eq_true rfl) (Nat.le_of_ble_eq_true rfl) (Nat.le_of_ble_eq_true rfl) d12_readsEnd_80 ?_
              exact ce_iretE C (ce_sok aK aV B0) hH e d12_readsEnd_83
            · have e := ce_if1 e hc67
              refine lv_iconst (v := (1 : Int32)) hx9 hb d12_readsEnd_70 (by decide) ?_
              refine lv_goto (tgt := 75) hx9 hb d12_readsEnd_71 (by decide) ?_
              obtain ⟨o75, eo75, e⟩ := ce_bd e
              refine ce_callV (As := [.int (1 : Int32)]) (rest := []) C (ce_sok aK aV B0) hH (c12_passes l D ad cA aK aV B0 C.2.2.2.2.2.2.1 F (1 : Int32)  h o75 eo75) lo_68.1 lo_68.2.choose_spec rfl rfl mc12_passes ml_12_149 mi12_passes ms12_passes mI_12 (n := 1) (by decide) rfl ⟨Nat.le_of_ble_eq_true rfl, Nat.le_of_ble_eq_true rfl⟩ ⟨Nat.le_of_ble_eq_true rfl, Nat.le_of_ble_eq_true rfl⟩ hl.1 rfl (Nat.le_of_ble_eq_true rfl) d12_readsEnd_75 (fun H locs hH => ?_)
              refine W.eq (g2 := F0 m 78 ls []) rfl ?_
              refine lv_iconst (v := (0 : Int32)) hx9 hb d12_readsEnd_78 (by decide) ?_
              refine lv_iload_n hx9 hb d12_readsEnd_79 rfl (lv_at hl 0 rfl) ?_
              refine va_mmax hx9 hb (C.2.2.1.trans hl.1.symm) C.2.2.2.1 (C.2.2.2.2.1 _ ml_12_189) (C.2.2.2.2.1 _ mt_Mmax) (C.2.2.2.2.1 _ mI_M) (C.2.2.2.2.1 _ mc_Mmax) (Nat.le_of_ble_eq_true rfl) (Nat.le_of_ble_eq_true rfl) (Nat.le_of_ble_eq_true rfl) (Nat.le_of_ble_eq_true rfl) d12_readsEnd_80 ?_
              exact ce_iretE C (ce_sok aK aV B0) hH e d12_readsEnd_83
        · have e := ce_if1 e hc46
          exact j12_readsEnd_49 C F s0  r h _ _ _ hH (lv_sub hl [1, 0] rfl) e
def f12_readsEnd_j15 (F : Nat) (x1 : Int32) (h : Hp) : Option (Int32 × Hp) :=
  f12_readsEnd_j23 F x1 (-1 : Int32) h
set_option maxRecDepth 20000 in
theorem j12_readsEnd_15 (C : ce_Cx p s m args c meth b12_readsEnd 3 (some .int) cn_12 D ad cA B0 (ce_St aK aV B0)) (F : Nat) (x1 : Int32)  (r : Int32 × Hp) (h : Hp) (H : Heap) (locs : List Loc) (ls : Array Slot) (hH : ce_H D ad cA B0 [] s h H locs) (hl : lv_has ls 3 [(0, .ref (ad 68)), (1, .int x1)]) (e : Option.bind (f12_readsEnd_j15 F x1 h) some = some r) : W p l e0 { frames := 4, cells := 0, slots := 0, locals := 88 } s m args below meth c H locs 0 0 (MQ below (ce_Q D ad cA B0 (ce_St aK aV B0) (some (.int r.1)) r.2) args s 0 0 (fun q => B0 ≤ q)) (F0 m 15 ls []) := by
  have hx9 := C.1
  have hb := C.2.1
  unfold f12_readsEnd_j15 at e
  refine lv_iconst (v := (-1 : Int32)) hx9 hb d12_readsEnd_15 (by decide) ?_
  refine lv_goto (tgt := 23) hx9 hb d12_readsEnd_16 (by decide) ?_
  exact j12_readsEnd_23 C F x1 (-1 : Int32)  r h _ _ _ hH (lv_sub hl [0, 1] rfl) e
def f12_readsEnd (F : Nat) (x1 : Int32) (h : Hp) : Option (Int32 × Hp) :=
  if (h 68 11) = 0 then
    if (h 68 9) = (1 : Int32) then
      Option.bind (f12_nodeHere F  h) (fun o20 =>
        f12_readsEnd_j23 F x1 o20.1 o20.2)
    else
      f12_readsEnd_j15 F x1 h
  else
    f12_readsEnd_j15 F x1 h
set_option maxRecDepth 20000 in
theorem c12_readsEnd (l : Launch) (D : va_G) (ad : Nat → Nat) (cA : Nat → ClassId) (aK aV : Nat → Nat) (B0 : Nat) (hA : ce_Ad ad B0) (F : Nat) (x1 : Int32)  (h : Hp) (r : Int32 × Hp) (e : f12_readsEnd F x1 h = some r) : ce_Ct l D ad cA B0 (ce_St aK aV B0) y12_readsEnd b12_readsEnd 3 (some .int) 4 88 0 0 [.ref (ad 68), .int x1] h (some (.int r.1)) r.2 := by
  refine ce_enter hA (by decide) rfl (Nat.le_of_ble_eq_true rfl) (fun p e0 s m below meth c ls C hH hl => ?_)
  have hl : lv_has ls 3 [(0, .ref (ad 68)), (1, .int x1)] := hl
  have hx := C.1
  have hb := C.2.1
  have e : Option.bind _ some = some r := (congrArg (fun z => Option.bind z some) e).trans rfl
  unfold f12_readsEnd at e
  refine lv_aload_n hx hb d12_readsEnd_0 rfl (lv_at hl 0 rfl) ?_
  refine gf_12_125 C hH d12_readsEnd_1 ?_
  refine lv_if_ne (tgt := 15) hx hb d12_readsEnd_4 (by decide) (fun hc4 => ?_) (fun hc4 => ?_)
  · have e := ce_if0 e hc4
    exact j12_readsEnd_15 C F x1  r h _ _ _ hH (lv_sub hl [0, 1] rfl) e
  · have e := ce_if1 e hc4
    refine lv_aload_n hx hb d12_readsEnd_7 rfl (lv_at hl 0 rfl) ?_
    refine gf_12_115 C hH d12_readsEnd_8 ?_
    refine lv_iconst (v := (1 : Int32)) hx hb d12_readsEnd_11 (by decide) ?_
    refine lv_icmp_eq (tgt := 19) hx hb d12_readsEnd_12 (by decide) (fun hc12 => ?_) (fun hc12 => ?_)
    · have e := ce_if1 e hc12
      refine lv_aload_n hx hb d12_readsEnd_19 rfl (lv_at hl 0 rfl) ?_
      obtain ⟨o20, eo20, e⟩ := ce_bd e
      refine ce_callV (As := []) (rest := []) C (ce_sok aK aV B0) hH (c12_nodeHere l D ad cA aK aV B0 C.2.2.2.2.2.2.1 F   h o20 eo20) lo_68.1 lo_68.2.choose_spec rfl rfl mc12_nodeHere ml_12_181 mi12_nodeHere ms12_nodeHere mI_12 (n := 0) (by decide) rfl ⟨Nat.le_of_ble_eq_true rfl, Nat.le_of_ble_eq_true rfl⟩ ⟨Nat.le_of_ble_eq_true rfl, Nat.le_of_ble_eq_true rfl⟩ hl.1 rfl (Nat.le_of_ble_eq_true rfl) d12_readsEnd_20 (fun H locs hH => ?_)
      refine W.eq (g2 := F0 m 23 ls [.int o20.1]) rfl ?_
      exact j12_readsEnd_23 C F x1 o20.1  r o20.2 _ _ _ hH (lv_sub hl [0, 1] rfl) e
    · have e := ce_if0 e hc12
      exact j12_readsEnd_15 C F x1  r h _ _ _ hH (lv_sub hl [0, 1] rfl) e
abbrev b12_readsPort : ByteArray := prog_14_method_19_code
def y12_readsPort : MethodName := ⟨cn_12, "readsPort", "(I)I"⟩
theorem d12_readsPort_0 : decode b12_readsPort 0 = .ok (.aload_n 0, 1) := by decide +kernel
theorem d12_readsPort_1 : decode b12_readsPort 1 = .ok (.getfield 125, 3) := by decide +kernel
theorem d12_readsPort_4 : decode b12_readsPort 4 = .ok (.ifCond .ne 58, 3) := by decide +kernel
theorem d12_readsPort_7 : decode b12_readsPort 7 = .ok (.aload_n 0, 1) := by decide +kernel
theorem d12_readsPort_8 : decode b12_readsPort 8 = .ok (.getfield 115, 3) := by decide +kernel
theorem d12_readsPort_11 : decode b12_readsPort 11 = .ok (.iconst 2, 1) := by decide +kernel
theorem d12_readsPort_12 : decode b12_readsPort 12 = .ok (.if_icmp .ne 50, 3) := by decide +kernel
theorem d12_readsPort_15 : decode b12_readsPort 15 = .ok (.aload_n 0, 1) := by decide +kernel
theorem d12_readsPort_16 : decode b12_readsPort 16 = .ok (.getfield 112, 3) := by decide +kernel
theorem d12_readsPort_19 : decode b12_readsPort 19 = .ok (.i2l, 1) := by decide +kernel
theorem d12_readsPort_20 : decode b12_readsPort 20 = .ok (.lconst 0, 1) := by decide +kernel
theorem d12_readsPort_21 : decode b12_readsPort 21 = .ok (.aload_n 0, 1) := by decide +kernel
theorem d12_readsPort_22 : decode b12_readsPort 22 = .ok (.getfield 7, 3) := by decide +kernel
theorem d12_readsPort_25 : decode b12_readsPort 25 = .ok (.iconst 5, 1) := by decide +kernel
theorem d12_readsPort_26 : decode b12_readsPort 26 = .ok (.iload_n 1, 1) := by decide +kernel
theorem d12_readsPort_27 : decode b12_readsPort 27 = .ok (.iadd, 1) := by decide +kernel
theorem d12_readsPort_28 : decode b12_readsPort 28 = .ok (.iaload, 1) := by decide +kernel
theorem d12_readsPort_29 : decode b12_readsPort 29 = .ok (.iconst 1, 1) := by decide +kernel
theorem d12_readsPort_30 : decode b12_readsPort 30 = .ok (.isub, 1) := by decide +kernel
theorem d12_readsPort_31 : decode b12_readsPort 31 = .ok (.i2l, 1) := by decide +kernel
theorem d12_readsPort_32 : decode b12_readsPort 32 = .ok (.invokestatic 98, 3) := by decide +kernel
theorem d12_readsPort_35 : decode b12_readsPort 35 = .ok (.ifCond .eq 27, 3) := by decide +kernel
theorem d12_readsPort_38 : decode b12_readsPort 38 = .ok (.aload_n 0, 1) := by decide +kernel
theorem d12_readsPort_39 : decode b12_readsPort 39 = .ok (.getfield 7, 3) := by decide +kernel
theorem d12_readsPort_42 : decode b12_readsPort 42 = .ok (.bipush 45, 2) := by decide +kernel
theorem d12_readsPort_44 : decode b12_readsPort 44 = .ok (.iconst 4, 1) := by decide +kernel
theorem d12_readsPort_45 : decode b12_readsPort 45 = .ok (.iload_n 1, 1) := by decide +kernel
theorem d12_readsPort_46 : decode b12_readsPort 46 = .ok (.imul, 1) := by decide +kernel
theorem d12_readsPort_47 : decode b12_readsPort 47 = .ok (.iadd, 1) := by decide +kernel
theorem d12_readsPort_48 : decode b12_readsPort 48 = .ok (.aload_n 0, 1) := by decide +kernel
theorem d12_readsPort_49 : decode b12_readsPort 49 = .ok (.getfield 112, 3) := by decide +kernel
theorem d12_readsPort_52 : decode b12_readsPort 52 = .ok (.iadd, 1) := by decide +kernel
theorem d12_readsPort_53 : decode b12_readsPort 53 = .ok (.iaload, 1) := by decide +kernel
theorem d12_readsPort_54 : decode b12_readsPort 54 = .ok (.ifCond .le 8, 3) := by decide +kernel
theorem d12_readsPort_57 : decode b12_readsPort 57 = .ok (.aload_n 0, 1) := by decide +kernel
theorem d12_readsPort_58 : decode b12_readsPort 58 = .ok (.iconst 2, 1) := by decide +kernel
theorem d12_readsPort_59 : decode b12_readsPort 59 = .ok (.invokevirtual 142, 3) := by decide +kernel
theorem d12_readsPort_62 : decode b12_readsPort 62 = .ok (.aload_n 0, 1) := by decide +kernel
theorem d12_readsPort_63 : decode b12_readsPort 63 = .ok (.iconst 0, 1) := by decide +kernel
theorem d12_readsPort_64 : decode b12_readsPort 64 = .ok (.aload_n 0, 1) := by decide +kernel
theorem d12_readsPort_65 : decode b12_readsPort 65 = .ok (.getfield 7, 3) := by decide +kernel
theorem d12_readsPort_68 : decode b12_readsPort 68 = .ok (.iconst 5, 1) := by decide +kernel
theorem d12_readsPort_69 : decode b12_readsPort 69 = .ok (.iload_n 1, 1) := by decide +kernel
theorem d12_readsPort_70 : decode b12_readsPort 70 = .ok (.iadd, 1) := by decide +kernel
theorem d12_readsPort_71 : decode b12_readsPort 71 = .ok (.iaload, 1) := by decide +kernel
theorem d12_readsPort_72 : decode b12_readsPort 72 = .ok (.iconst 1, 1) := by decide +kernel
theorem d12_readsPort_73 : decode b12_readsPort 73 = .ok (.isub, 1) := by decide +kernel
theorem d12_readsPort_74 : decode b12_readsPort 74 = .ok (.invokevirtual 157, 3) := by decide +kernel
theorem d12_readsPort_77 : decode b12_readsPort 77 = .ok (.ireturn, 1) := by decide +kernel
def f12_readsPort (F : Nat) (x1 : Int32) (h : Hp) : Option (Int32 × Hp) :=
  if (h 68 11) = 0 then
    if (h 68 9) = (2 : Int32) then
      if ce_in ((5 : Int32) + x1) 125 = true then
        Option.bind (f12_in F (((h 68 10)).toInt64) (0 : Int64) ((((h 69 (((5 : Int32) + x1)).toNatClampNeg) - (1 : Int32))).toInt64) h) (fun o32 =>
          if o32.1 = 0 then
            if ce_in ((5 : Int32) + x1) 125 = true then
              Option.bind (f12_reads F (0 : Int32) ((o32.2 69 (((5 : Int32) + x1)).toNatClampNeg) - (1 : Int32)) o32.2) (fun o74 =>
                some (o74.1, o74.2))
            else none
          else
            if ce_in (((45 : Int32) + ((4 : Int32) * x1)) + (o32.2 68 10)) 125 = true then
              if (o32.2 69 ((((45 : Int32) + ((4 : Int32) * x1)) + (o32.2 68 10))).toNatClampNeg) ≤ 0 then
                if ce_in ((5 : Int32) + x1) 125 = true then
                  Option.bind (f12_reads F (0 : Int32) ((o32.2 69 (((5 : Int32) + x1)).toNatClampNeg) - (1 : Int32)) o32.2) (fun o74 =>
                    some (o74.1, o74.2))
                else none
              else
                Option.bind (f12_faults F (2 : Int32) o32.2) (fun o59 =>
                  if ce_in ((5 : Int32) + x1) 125 = true then
                    Option.bind (f12_reads F (0 : Int32) ((o59 69 (((5 : Int32) + x1)).toNatClampNeg) - (1 : Int32)) o59) (fun o74 =>
                      some (o74.1, o74.2))
                  else none)
            else none)
      else none
    else
      if ce_in ((5 : Int32) + x1) 125 = true then
        Option.bind (f12_reads F (0 : Int32) ((h 69 (((5 : Int32) + x1)).toNatClampNeg) - (1 : Int32)) h) (fun o74 =>
          some (o74.1, o74.2))
      else none
  else
    if ce_in ((5 : Int32) + x1) 125 = true then
      Option.bind (f12_reads F (0 : Int32) ((h 69 (((5 : Int32) + x1)).toNatClampNeg) - (1 : Int32)) h) (fun o74 =>
        some (o74.1, o74.2))
    else none
set_option maxRecDepth 20000 in
theorem c12_readsPort (l : Launch) (D : va_G) (ad : Nat → Nat) (cA : Nat → ClassId) (aK aV : Nat → Nat) (B0 : Nat) (hA : ce_Ad ad B0) (F : Nat) (x1 : Int32)  (h : Hp) (r : Int32 × Hp) (e : f12_readsPort F x1 h = some r) : ce_Ct l D ad cA B0 (ce_St aK aV B0) y12_readsPort b12_readsPort 2 (some .int) 5 111 0 0 [.ref (ad 68), .int x1] h (some (.int r.1)) r.2 := by
  refine ce_enter hA (by decide) rfl (Nat.le_of_ble_eq_true rfl) (fun p e0 s m below meth c ls C hH hl => ?_)
  have hl : lv_has ls 2 [(0, .ref (ad 68)), (1, .int x1)] := hl
  have hx := C.1
  have hb := C.2.1
  have e : Option.bind _ some = some r := (congrArg (fun z => Option.bind z some) e).trans rfl
  unfold f12_readsPort at e
  refine lv_aload_n hx hb d12_readsPort_0 rfl (lv_at hl 0 rfl) ?_
  refine gf_12_125 C hH d12_readsPort_1 ?_
  refine lv_if_ne (tgt := 62) hx hb d12_readsPort_4 (by decide) (fun hc4 => ?_) (fun hc4 => ?_)
  · have e := ce_if0 e hc4
    refine lv_aload_n hx hb d12_readsPort_62 rfl (lv_at hl 0 rfl) ?_
    refine lv_iconst (v := (0 : Int32)) hx hb d12_readsPort_63 (by decide) ?_
    refine lv_aload_n hx hb d12_readsPort_64 rfl (lv_at hl 0 rfl) ?_
    refine gf_12_7 C hH d12_readsPort_65 ?_
    refine lv_iconst (v := (5 : Int32)) hx hb d12_readsPort_68 (by decide) ?_
    refine lv_iload_n hx hb d12_readsPort_69 rfl (lv_at hl 1 rfl) ?_
    refine lv_iadd hx hb d12_readsPort_70 ?_
    obtain ⟨hi71, e⟩ := ce_gd e
    refine ce_iald C hH lc_69.1 lc_69.2 (ce_in_vp hi71) d12_readsPort_71 ?_
    refine lv_iconst (v := (1 : Int32)) hx hb d12_readsPort_72 (by decide) ?_
    refine lv_isub hx hb d12_readsPort_73 ?_
    obtain ⟨o74, eo74, e⟩ := ce_bd e
    refine ce_callV (As := [.int (0 : Int32), .int ((h 69 (((5 : Int32) + x1)).toNatClampNeg) - (1 : Int32))]) (rest := []) C (ce_sok aK aV B0) hH (c12_reads l D ad cA aK aV B0 C.2.2.2.2.2.2.1 F (0 : Int32) ((h 69 (((5 : Int32) + x1)).toNatClampNeg) - (1 : Int32))  h o74 eo74) lo_68.1 lo_68.2.choose_spec rfl rfl mc12_reads ml_12_157 mi12_reads ms12_reads mI_12 (n := 2) (by decide) rfl ⟨Nat.le_of_ble_eq_true rfl, Nat.le_of_ble_eq_true rfl⟩ ⟨Nat.le_of_ble_eq_true rfl, Nat.le_of_ble_eq_true rfl⟩ hl.1 rfl (Nat.le_of_ble_eq_true rfl) d12_readsPort_74 (fun H locs hH => ?_)
    refine W.eq (g2 := F0 m 77 ls [.int o74.1]) rfl ?_
    exact ce_iretE C (ce_sok aK aV B0) hH e d12_readsPort_77
  · have e := ce_if1 e hc4
    refine lv_aload_n hx hb d12_readsPort_7 rfl (lv_at hl 0 rfl) ?_
    refine gf_12_115 C hH d12_readsPort_8 ?_
    refine lv_iconst (v := (2 : Int32)) hx hb d12_readsPort_11 (by decide) ?_
    refine lv_icmp_ne (tgt := 62) hx hb d12_readsPort_12 (by decide) (fun hc12 => ?_) (fun hc12 => ?_)
    · have e := ce_if0 e hc12
      refine lv_aload_n hx hb d12_readsPort_62 rfl (lv_at hl 0 rfl) ?_
      refine lv_iconst (v := (0 : Int32)) hx hb d12_readsPort_63 (by decide) ?_
      refine lv_aload_n hx hb d12_readsPort_64 rfl (lv_at hl 0 rfl) ?_
      refine gf_12_7 C hH d12_readsPort_65 ?_
      refine lv_iconst (v := (5 : Int32)) hx hb d12_readsPort_68 (by decide) ?_
      refine lv_iload_n hx hb d12_readsPort_69 rfl (lv_at hl 1 rfl) ?_
      refine lv_iadd hx hb d12_readsPort_70 ?_
      obtain ⟨hi71, e⟩ := ce_gd e
      refine ce_iald C hH lc_69.1 lc_69.2 (ce_in_vp hi71) d12_readsPort_71 ?_
      refine lv_iconst (v := (1 : Int32)) hx hb d12_readsPort_72 (by decide) ?_
      refine lv_isub hx hb d12_readsPort_73 ?_
      obtain ⟨o74, eo74, e⟩ := ce_bd e
      refine ce_callV (As := [.int (0 : Int32), .int ((h 69 (((5 : Int32) + x1)).toNatClampNeg) - (1 : Int32))]) (rest := []) C (ce_sok aK aV B0) hH (c12_reads l D ad cA aK aV B0 C.2.2.2.2.2.2.1 F (0 : Int32) ((h 69 (((5 : Int32) + x1)).toNatClampNeg) - (1 : Int32))  h o74 eo74) lo_68.1 lo_68.2.choose_spec rfl rfl mc12_reads ml_12_157 mi12_reads ms12_reads mI_12 (n := 2) (by decide) rfl ⟨Nat.le_of_ble_eq_true rfl, Nat.le_of_ble_eq_true rfl⟩ ⟨Nat.le_of_ble_eq_true rfl, Nat.le_of_ble_eq_true rfl⟩ hl.1 rfl (Nat.le_of_ble_eq_true rfl) d12_readsPort_74 (fun H locs hH => ?_)
      refine W.eq (g2 := F0 m 77 ls [.int o74.1]) rfl ?_
      exact ce_iretE C (ce_sok aK aV B0) hH e d12_readsPort_77
    · have e := ce_if1 e hc12
      refine lv_aload_n hx hb d12_readsPort_15 rfl (lv_at hl 0 rfl) ?_
      refine gf_12_112 C hH d12_readsPort_16 ?_
      refine lv_i2l (v := ((h 68 10)).toInt64) hx hb d12_readsPort_19 rfl ?_
      refine lv_lconst (v := (0 : Int64)) hx hb d12_readsPort_20 (by decide) ?_
      refine lv_aload_n hx hb d12_readsPort_21 rfl (lv_at hl 0 rfl) ?_
      refine gf_12_7 C hH d12_readsPort_22 ?_
      refine lv_iconst (v := (5 : Int32)) hx hb d12_readsPort_25 (by decide) ?_
      refine lv_iload_n hx hb d12_readsPort_26 rfl (lv_at hl 1 rfl) ?_
      refine lv_iadd hx hb d12_readsPort_27 ?_
      obtain ⟨hi28, e⟩ := ce_gd e
      refine ce_iald C hH lc_69.1 lc_69.2 (ce_in_vp hi28) d12_readsPort_28 ?_
      refine lv_iconst (v := (1 : Int32)) hx hb d12_readsPort_29 (by decide) ?_
      refine lv_isub hx hb d12_readsPort_30 ?_
      refine lv_i2l (v := (((h 69 (((5 : Int32) + x1)).toNatClampNeg) - (1 : Int32))).toInt64) hx hb d12_readsPort_31 rfl ?_
      obtain ⟨o32, eo32, e⟩ := ce_bd e
      refine ce_callS (As := [.long (((h 68 10)).toInt64), .long (0 : Int64), .long ((((h 69 (((5 : Int32) + x1)).toNatClampNeg) - (1 : Int32))).toInt64)]) (rest := []) C (ce_sok aK aV B0) hH (c12_in l D ad cA aK aV B0 C.2.2.2.2.2.2.1 F (((h 68 10)).toInt64) (0 : Int64) ((((h 69 (((5 : Int32) + x1)).toNatClampNeg) - (1 : Int32))).toInt64)  h o32 eo32) mc12_in ml_12_98 mt12_in mI_12 (n := 3) (by decide) rfl ⟨Nat.le_of_ble_eq_true rfl, Nat.le_of_ble_eq_true rfl⟩ ⟨Nat.le_of_ble_eq_true rfl, Nat.le_of_ble_eq_true rfl⟩ hl.1 rfl (Nat.le_of_ble_eq_true rfl) d12_readsPort_32 (fun H locs hH => ?_)
      refine W.eq (g2 := F0 m 35 ls [.int o32.1]) rfl ?_
      refine lv_if_eq (tgt := 62) hx hb d12_readsPort_35 (by decide) (fun hc35 => ?_) (fun hc35 => ?_)
      · have e := ce_if1 e hc35
        refine lv_aload_n hx hb d12_readsPort_62 rfl (lv_at hl 0 rfl) ?_
        refine lv_iconst (v := (0 : Int32)) hx hb d12_readsPort_63 (by decide) ?_
        refine lv_aload_n hx hb d12_readsPort_64 rfl (lv_at hl 0 rfl) ?_
        refine gf_12_7 C hH d12_readsPort_65 ?_
        refine lv_iconst (v := (5 : Int32)) hx hb d12_readsPort_68 (by decide) ?_
        refine lv_iload_n hx hb d12_readsPort_69 rfl (lv_at hl 1 rfl) ?_
        refine lv_iadd hx hb d12_readsPort_70 ?_
        obtain ⟨hi71, e⟩ := ce_gd e
        refine ce_iald C hH lc_69.1 lc_69.2 (ce_in_vp hi71) d12_readsPort_71 ?_
        refine lv_iconst (v := (1 : Int32)) hx hb d12_readsPort_72 (by decide) ?_
        refine lv_isub hx hb d12_readsPort_73 ?_
        obtain ⟨o74, eo74, e⟩ := ce_bd e
        refine ce_callV (As := [.int (0 : Int32), .int ((o32.2 69 (((5 : Int32) + x1)).toNatClampNeg) - (1 : Int32))]) (rest := []) C (ce_sok aK aV B0) hH (c12_reads l D ad cA aK aV B0 C.2.2.2.2.2.2.1 F (0 : Int32) ((o32.2 69 (((5 : Int32) + x1)).toNatClampNeg) - (1 : Int32))  o32.2 o74 eo74) lo_68.1 lo_68.2.choose_spec rfl rfl mc12_reads ml_12_157 mi12_reads ms12_reads mI_12 (n := 2) (by decide) rfl ⟨Nat.le_of_ble_eq_true rfl, Nat.le_of_ble_eq_true rfl⟩ ⟨Nat.le_of_ble_eq_true rfl, Nat.le_of_ble_eq_true rfl⟩ hl.1 rfl (Nat.le_of_ble_eq_true rfl) d12_readsPort_74 (fun H locs hH => ?_)
        refine W.eq (g2 := F0 m 77 ls [.int o74.1]) rfl ?_
        exact ce_iretE C (ce_sok aK aV B0) hH e d12_readsPort_77
      · have e := ce_if0 e hc35
        refine lv_aload_n hx hb d12_readsPort_38 rfl (lv_at hl 0 rfl) ?_
        refine gf_12_7 C hH d12_readsPort_39 ?_
        refine lv_bipush (v := (45 : Int32)) hx hb d12_readsPort_42 (by decide) ?_
        refine lv_iconst (v := (4 : Int32)) hx hb d12_readsPort_44 (by decide) ?_
        refine lv_iload_n hx hb d12_readsPort_45 rfl (lv_at hl 1 rfl) ?_
        refine lv_imul hx hb d12_readsPort_46 ?_
        refine lv_iadd hx hb d12_readsPort_47 ?_
        refine lv_aload_n hx hb d12_readsPort_48 rfl (lv_at hl 0 rfl) ?_
        refine gf_12_112 C hH d12_readsPort_49 ?_
        refine lv_iadd hx hb d12_readsPort_52 ?_
        obtain ⟨hi53, e⟩ := ce_gd e
        refine ce_iald C hH lc_69.1 lc_69.2 (ce_in_vp hi53) d12_readsPort_53 ?_
        refine lv_if_le (tgt := 62) hx hb d12_readsPort_54 (by decide) (fun hc54 => ?_) (fun hc54 => ?_)
        · have e := ce_if1 e hc54
          refine lv_aload_n hx hb d12_readsPort_62 rfl (lv_at hl 0 rfl) ?_
          refine lv_iconst (v := (0 : Int32)) hx hb d12_readsPort_63 (by decide) ?_
          refine lv_aload_n hx hb d12_readsPort_64 rfl (lv_at hl 0 rfl) ?_
          refine gf_12_7 C hH d12_readsPort_65 ?_
          refine lv_iconst (v := (5 : Int32)) hx hb d12_readsPort_68 (by decide) ?_
          refine lv_iload_n hx hb d12_readsPort_69 rfl (lv_at hl 1 rfl) ?_
          refine lv_iadd hx hb d12_readsPort_70 ?_
          obtain ⟨hi71, e⟩ := ce_gd e
          refine ce_iald C hH lc_69.1 lc_69.2 (ce_in_vp hi71) d12_readsPort_71 ?_
          refine lv_iconst (v := (1 : Int32)) hx hb d12_readsPort_72 (by decide) ?_
          refine lv_isub hx hb d12_readsPort_73 ?_
          obtain ⟨o74, eo74, e⟩ := ce_bd e
          refine ce_callV (As := [.int (0 : Int32), .int ((o32.2 69 (((5 : Int32) + x1)).toNatClampNeg) - (1 : Int32))]) (rest := []) C (ce_sok aK aV B0) hH (c12_reads l D ad cA aK aV B0 C.2.2.2.2.2.2.1 F (0 : Int32) ((o32.2 69 (((5 : Int32) + x1)).toNatClampNeg) - (1 : Int32))  o32.2 o74 eo74) lo_68.1 lo_68.2.choose_spec rfl rfl mc12_reads ml_12_157 mi12_reads ms12_reads mI_12 (n := 2) (by decide) rfl ⟨Nat.le_of_ble_eq_true rfl, Nat.le_of_ble_eq_true rfl⟩ ⟨Nat.le_of_ble_eq_true rfl, Nat.le_of_ble_eq_true rfl⟩ hl.1 rfl (Nat.le_of_ble_eq_true rfl) d12_readsPort_74 (fun H locs hH => ?_)
          refine W.eq (g2 := F0 m 77 ls [.int o74.1]) rfl ?_
          exact ce_iretE C (ce_sok aK aV B0) hH e d12_readsPort_77
        · have e := ce_if0 e hc54
          refine lv_aload_n hx hb d12_readsPort_57 rfl (lv_at hl 0 rfl) ?_
          refine lv_iconst (v := (2 : Int32)) hx hb d12_readsPort_58 (by decide) ?_
          obtain ⟨o59, eo59, e⟩ := ce_bd e
          refine ce_callV (As := [.int (2 : Int32)]) (rest := []) C (ce_sok aK aV B0) hH (c12_faults l D ad cA aK aV B0 C.2.2.2.2.2.2.1 F (2 : Int32)  o32.2 o59 eo59) lo_68.1 lo_68.2.choose_spec rfl rfl mc12_faults ml_12_142 mi12_faults ms12_faults mI_12 (n := 1) (by decide) rfl ⟨Nat.le_of_ble_eq_true rfl, Nat.le_of_ble_eq_true rfl⟩ ⟨Nat.le_of_ble_eq_true rfl, Nat.le_of_ble_eq_true rfl⟩ hl.1 rfl (Nat.le_of_ble_eq_true rfl) d12_readsPort_59 (fun H locs hH => ?_)
          refine W.eq (g2 := F0 m 62 ls []) rfl ?_
          refine lv_aload_n hx hb d12_readsPort_62 rfl (lv_at hl 0 rfl) ?_
          refine lv_iconst (v := (0 : Int32)) hx hb d12_readsPort_63 (by decide) ?_
          refine lv_aload_n hx hb d12_readsPort_64 rfl (lv_at hl 0 rfl) ?_
          refine gf_12_7 C hH d12_readsPort_65 ?_
          refine lv_iconst (v := (5 : Int32)) hx hb d12_readsPort_68 (by decide) ?_
          refine lv_iload_n hx hb d12_readsPort_69 rfl (lv_at hl 1 rfl) ?_
          refine lv_iadd hx hb d12_readsPort_70 ?_
          obtain ⟨hi71, e⟩ := ce_gd e
          refine ce_iald C hH lc_69.1 lc_69.2 (ce_in_vp hi71) d12_readsPort_71 ?_
          refine lv_iconst (v := (1 : Int32)) hx hb d12_readsPort_72 (by decide) ?_
          refine lv_isub hx hb d12_readsPort_73 ?_
          obtain ⟨o74, eo74, e⟩ := ce_bd e
          refine ce_callV (As := [.int (0 : Int32), .int ((o59 69 (((5 : Int32) + x1)).toNatClampNeg) - (1 : Int32))]) (rest := []) C (ce_sok aK aV B0) hH (c12_reads l D ad cA aK aV B0 C.2.2.2.2.2.2.1 F (0 : Int32) ((o59 69 (((5 : Int32) + x1)).toNatClampNeg) - (1 : Int32))  o59 o74 eo74) lo_68.1 lo_68.2.choose_spec rfl rfl mc12_reads ml_12_157 mi12_reads ms12_reads mI_12 (n := 2) (by decide) rfl ⟨Nat.le_of_ble_eq_true rfl, Nat.le_of_ble_eq_true rfl⟩ ⟨Nat.le_of_ble_eq_true rfl, Nat.le_of_ble_eq_true rfl⟩ hl.1 rfl (Nat.le_of_ble_eq_true rfl) d12_readsPort_74 (fun H locs hH => ?_)
          refine W.eq (g2 := F0 m 77 ls [.int o74.1]) rfl ?_
          exact ce_iretE C (ce_sok aK aV B0) hH e d12_readsPort_77
abbrev b12_lays : ByteArray := prog_14_method_21_code
def y12_lays : MethodName := ⟨cn_12, "lays", "(III)V"⟩
theorem d12_lays_0 : decode b12_lays 0 = .ok (.aload_n 0, 1) := by decide +kernel
theorem d12_lays_1 : decode b12_lays 1 = .ok (.getfield 7, 3) := by decide +kernel
theorem d12_lays_4 : decode b12_lays 4 = .ok (.bipush 45, 2) := by decide +kernel
theorem d12_lays_6 : decode b12_lays 6 = .ok (.iload_n 1, 1) := by decide +kernel
theorem d12_lays_7 : decode b12_lays 7 = .ok (.iadd, 1) := by decide +kernel
theorem d12_lays_8 : decode b12_lays 8 = .ok (.iload_n 2, 1) := by decide +kernel
theorem d12_lays_9 : decode b12_lays 9 = .ok (.iconst 1, 1) := by decide +kernel
theorem d12_lays_10 : decode b12_lays 10 = .ok (.iadd, 1) := by decide +kernel
theorem d12_lays_11 : decode b12_lays 11 = .ok (.iastore, 1) := by decide +kernel
theorem d12_lays_12 : decode b12_lays 12 = .ok (.aload_n 0, 1) := by decide +kernel
theorem d12_lays_13 : decode b12_lays 13 = .ok (.getfield 7, 3) := by decide +kernel
theorem d12_lays_16 : decode b12_lays 16 = .ok (.bipush 45, 2) := by decide +kernel
theorem d12_lays_18 : decode b12_lays 18 = .ok (.iload_n 2, 1) := by decide +kernel
theorem d12_lays_19 : decode b12_lays 19 = .ok (.iadd, 1) := by decide +kernel
theorem d12_lays_20 : decode b12_lays 20 = .ok (.iload_n 1, 1) := by decide +kernel
theorem d12_lays_21 : decode b12_lays 21 = .ok (.iconst 1, 1) := by decide +kernel
theorem d12_lays_22 : decode b12_lays 22 = .ok (.iadd, 1) := by decide +kernel
theorem d12_lays_23 : decode b12_lays 23 = .ok (.iastore, 1) := by decide +kernel
theorem d12_lays_24 : decode b12_lays 24 = .ok (.aload_n 0, 1) := by decide +kernel
theorem d12_lays_25 : decode b12_lays 25 = .ok (.getfield 7, 3) := by decide +kernel
theorem d12_lays_28 : decode b12_lays 28 = .ok (.bipush 85, 2) := by decide +kernel
theorem d12_lays_30 : decode b12_lays 30 = .ok (.iload_n 1, 1) := by decide +kernel
theorem d12_lays_31 : decode b12_lays 31 = .ok (.iadd, 1) := by decide +kernel
theorem d12_lays_32 : decode b12_lays 32 = .ok (.iload_n 3, 1) := by decide +kernel
theorem d12_lays_33 : decode b12_lays 33 = .ok (.iastore, 1) := by decide +kernel
theorem d12_lays_34 : decode b12_lays 34 = .ok (.aload_n 0, 1) := by decide +kernel
theorem d12_lays_35 : decode b12_lays 35 = .ok (.getfield 7, 3) := by decide +kernel
theorem d12_lays_38 : decode b12_lays 38 = .ok (.bipush 85, 2) := by decide +kernel
theorem d12_lays_40 : decode b12_lays 40 = .ok (.iload_n 2, 1) := by decide +kernel
theorem d12_lays_41 : decode b12_lays 41 = .ok (.iadd, 1) := by decide +kernel
theorem d12_lays_42 : decode b12_lays 42 = .ok (.iload_n 3, 1) := by decide +kernel
theorem d12_lays_43 : decode b12_lays 43 = .ok (.iastore, 1) := by decide +kernel
theorem d12_lays_44 : decode b12_lays 44 = .ok (.return_, 1) := by decide +kernel
def f12_lays (F : Nat) (x1 : Int32) (x2 : Int32) (x3 : Int32) (h : Hp) : Option (Hp) :=
  if ce_in ((45 : Int32) + x1) 125 = true then
    ce_nm (hp_up h 69 (((45 : Int32) + x1)).toNatClampNeg (x2 + (1 : Int32))) (fun h_11 =>
      if ce_in ((45 : Int32) + x2) 125 = true then
        ce_nm (hp_up h_11 69 (((45 : Int32) + x2)).toNatClampNeg (x1 + (1 : Int32))) (fun h_23 =>
          if ce_in ((85 : Int32) + x1) 125 = true then
            ce_nm (hp_up h_23 69 (((85 : Int32) + x1)).toNatClampNeg x3) (fun h_33 =>
              if ce_in ((85 : Int32) + x2) 125 = true then
                ce_nm (hp_up h_33 69 (((85 : Int32) + x2)).toNatClampNeg x3) (fun h_43 =>
                  some h_43)
              else none)
          else none)
      else none)
  else none
set_option maxRecDepth 20000 in
theorem c12_lays (l : Launch) (D : va_G) (ad : Nat → Nat) (cA : Nat → ClassId) (aK aV : Nat → Nat) (B0 : Nat) (hA : ce_Ad ad B0) (F : Nat) (x1 : Int32) (x2 : Int32) (x3 : Int32)  (h : Hp) (r : Hp) (e : f12_lays F x1 x2 x3 h = some r) : ce_Ct l D ad cA B0 (ce_St aK aV B0) y12_lays b12_lays 4 none 0 0 0 0 [.ref (ad 68), .int x1, .int x2, .int x3] h none r := by
  refine ce_enter hA (by decide) rfl (Nat.le_of_ble_eq_true rfl) (fun p e0 s m below meth c ls C hH hl => ?_)
  have hl : lv_has ls 4 [(0, .ref (ad 68)), (1, .int x1), (2, .int x2), (3, .int x3)] := hl
  have hx := C.1
  have hb := C.2.1
  have e : Option.bind _ some = some r := (congrArg (fun z => Option.bind z some) e).trans rfl
  unfold f12_lays at e
  refine lv_aload_n hx hb d12_lays_0 rfl (lv_at hl 0 rfl) ?_
  refine gf_12_7 C hH d12_lays_1 ?_
  refine lv_bipush (v := (45 : Int32)) hx hb d12_lays_4 (by decide) ?_
  refine lv_iload_n hx hb d12_lays_6 rfl (lv_at hl 1 rfl) ?_
  refine lv_iadd hx hb d12_lays_7 ?_
  refine lv_iload_n hx hb d12_lays_8 rfl (lv_at hl 2 rfl) ?_
  refine lv_iconst (v := (1 : Int32)) hx hb d12_lays_9 (by decide) ?_
  refine lv_iadd hx hb d12_lays_10 ?_
  obtain ⟨hi11, e⟩ := ce_gd e
  refine ce_iast C hH lc_69.1 lc_69.2 (ce_in_vp hi11) d12_lays_11 (fun H locs hH => ?_)
  obtain ⟨h_11, eh_11, e⟩ := ce_nmE e
  rw [← eh_11] at hH
  refine lv_aload_n hx hb d12_lays_12 rfl (lv_at hl 0 rfl) ?_
  refine gf_12_7 C hH d12_lays_13 ?_
  refine lv_bipush (v := (45 : Int32)) hx hb d12_lays_16 (by decide) ?_
  refine lv_iload_n hx hb d12_lays_18 rfl (lv_at hl 2 rfl) ?_
  refine lv_iadd hx hb d12_lays_19 ?_
  refine lv_iload_n hx hb d12_lays_20 rfl (lv_at hl 1 rfl) ?_
  refine lv_iconst (v := (1 : Int32)) hx hb d12_lays_21 (by decide) ?_
  refine lv_iadd hx hb d12_lays_22 ?_
  obtain ⟨hi23, e⟩ := ce_gd e
  refine ce_iast C hH lc_69.1 lc_69.2 (ce_in_vp hi23) d12_lays_23 (fun H locs hH => ?_)
  obtain ⟨h_23, eh_23, e⟩ := ce_nmE e
  rw [← eh_23] at hH
  refine lv_aload_n hx hb d12_lays_24 rfl (lv_at hl 0 rfl) ?_
  refine gf_12_7 C hH d12_lays_25 ?_
  refine lv_bipush (v := (85 : Int32)) hx hb d12_lays_28 (by decide) ?_
  refine lv_iload_n hx hb d12_lays_30 rfl (lv_at hl 1 rfl) ?_
  refine lv_iadd hx hb d12_lays_31 ?_
  refine lv_iload_n hx hb d12_lays_32 rfl (lv_at hl 3 rfl) ?_
  obtain ⟨hi33, e⟩ := ce_gd e
  refine ce_iast C hH lc_69.1 lc_69.2 (ce_in_vp hi33) d12_lays_33 (fun H locs hH => ?_)
  obtain ⟨h_33, eh_33, e⟩ := ce_nmE e
  rw [← eh_33] at hH
  refine lv_aload_n hx hb d12_lays_34 rfl (lv_at hl 0 rfl) ?_
  refine gf_12_7 C hH d12_lays_35 ?_
  refine lv_bipush (v := (85 : Int32)) hx hb d12_lays_38 (by decide) ?_
  refine lv_iload_n hx hb d12_lays_40 rfl (lv_at hl 2 rfl) ?_
  refine lv_iadd hx hb d12_lays_41 ?_
  refine lv_iload_n hx hb d12_lays_42 rfl (lv_at hl 3 rfl) ?_
  obtain ⟨hi43, e⟩ := ce_gd e
  refine ce_iast C hH lc_69.1 lc_69.2 (ce_in_vp hi43) d12_lays_43 (fun H locs hH => ?_)
  obtain ⟨h_43, eh_43, e⟩ := ce_nmE e
  rw [← eh_43] at hH
  exact ce_vret C (ce_sok aK aV B0) hH (Option.some.inj e) d12_lays_44
abbrev b12_readsCable : ByteArray := prog_14_method_20_code
def y12_readsCable : MethodName := ⟨cn_12, "readsCable", "()V"⟩
theorem d12_readsCable_0 : decode b12_readsCable 0 = .ok (.aload_n 0, 1) := by decide +kernel
theorem d12_readsCable_1 : decode b12_readsCable 1 = .ok (.getfield 192, 3) := by decide +kernel
theorem d12_readsCable_4 : decode b12_readsCable 4 = .ok (.bipush 15, 2) := by decide +kernel
theorem d12_readsCable_6 : decode b12_readsCable 6 = .ok (.if_icmp .ne 8, 3) := by decide +kernel
theorem d12_readsCable_9 : decode b12_readsCable 9 = .ok (.aload_n 0, 1) := by decide +kernel
theorem d12_readsCable_10 : decode b12_readsCable 10 = .ok (.iconst 3, 1) := by decide +kernel
theorem d12_readsCable_11 : decode b12_readsCable 11 = .ok (.invokevirtual 142, 3) := by decide +kernel
theorem d12_readsCable_14 : decode b12_readsCable 14 = .ok (.aload_n 0, 1) := by decide +kernel
theorem d12_readsCable_15 : decode b12_readsCable 15 = .ok (.iconst 1, 1) := by decide +kernel
theorem d12_readsCable_16 : decode b12_readsCable 16 = .ok (.invokevirtual 149, 3) := by decide +kernel
theorem d12_readsCable_19 : decode b12_readsCable 19 = .ok (.aload_n 0, 1) := by decide +kernel
theorem d12_readsCable_20 : decode b12_readsCable 20 = .ok (.iconst (-1), 1) := by decide +kernel
theorem d12_readsCable_21 : decode b12_readsCable 21 = .ok (.invokevirtual 195, 3) := by decide +kernel
theorem d12_readsCable_24 : decode b12_readsCable 24 = .ok (.istore_n 1, 1) := by decide +kernel
theorem d12_readsCable_25 : decode b12_readsCable 25 = .ok (.aload_n 0, 1) := by decide +kernel
theorem d12_readsCable_26 : decode b12_readsCable 26 = .ok (.iload_n 1, 1) := by decide +kernel
theorem d12_readsCable_27 : decode b12_readsCable 27 = .ok (.invokevirtual 199, 3) := by decide +kernel
theorem d12_readsCable_30 : decode b12_readsCable 30 = .ok (.istore_n 2, 1) := by decide +kernel
theorem d12_readsCable_31 : decode b12_readsCable 31 = .ok (.aload_n 0, 1) := by decide +kernel
theorem d12_readsCable_32 : decode b12_readsCable 32 = .ok (.iload_n 1, 1) := by decide +kernel
theorem d12_readsCable_33 : decode b12_readsCable 33 = .ok (.invokevirtual 195, 3) := by decide +kernel
theorem d12_readsCable_36 : decode b12_readsCable 36 = .ok (.istore_n 3, 1) := by decide +kernel
theorem d12_readsCable_37 : decode b12_readsCable 37 = .ok (.aload_n 0, 1) := by decide +kernel
theorem d12_readsCable_38 : decode b12_readsCable 38 = .ok (.iload_n 3, 1) := by decide +kernel
theorem d12_readsCable_39 : decode b12_readsCable 39 = .ok (.invokevirtual 199, 3) := by decide +kernel
theorem d12_readsCable_42 : decode b12_readsCable 42 = .ok (.istore 4, 2) := by decide +kernel
theorem d12_readsCable_44 : decode b12_readsCable 44 = .ok (.aload_n 0, 1) := by decide +kernel
theorem d12_readsCable_45 : decode b12_readsCable 45 = .ok (.ldc 202, 2) := by decide +kernel
theorem d12_readsCable_47 : decode b12_readsCable 47 = .ok (.iconst 1, 1) := by decide +kernel
theorem d12_readsCable_48 : decode b12_readsCable 48 = .ok (.bipush 9, 2) := by decide +kernel
theorem d12_readsCable_50 : decode b12_readsCable 50 = .ok (.invokevirtual 171, 3) := by decide +kernel
theorem d12_readsCable_53 : decode b12_readsCable 53 = .ok (.istore 5, 2) := by decide +kernel
theorem d12_readsCable_55 : decode b12_readsCable 55 = .ok (.aload_n 0, 1) := by decide +kernel
theorem d12_readsCable_56 : decode b12_readsCable 56 = .ok (.getfield 125, 3) := by decide +kernel
theorem d12_readsCable_59 : decode b12_readsCable 59 = .ok (.ifCond .ne 30, 3) := by decide +kernel
theorem d12_readsCable_62 : decode b12_readsCable 62 = .ok (.aload_n 0, 1) := by decide +kernel
theorem d12_readsCable_63 : decode b12_readsCable 63 = .ok (.iconst 4, 1) := by decide +kernel
theorem d12_readsCable_64 : decode b12_readsCable 64 = .ok (.iload_n 1, 1) := by decide +kernel
theorem d12_readsCable_65 : decode b12_readsCable 65 = .ok (.imul, 1) := by decide +kernel
theorem d12_readsCable_66 : decode b12_readsCable 66 = .ok (.iload_n 2, 1) := by decide +kernel
theorem d12_readsCable_67 : decode b12_readsCable 67 = .ok (.iadd, 1) := by decide +kernel
theorem d12_readsCable_68 : decode b12_readsCable 68 = .ok (.iconst 4, 1) := by decide +kernel
theorem d12_readsCable_69 : decode b12_readsCable 69 = .ok (.iload_n 3, 1) := by decide +kernel
theorem d12_readsCable_70 : decode b12_readsCable 70 = .ok (.imul, 1) := by decide +kernel
theorem d12_readsCable_71 : decode b12_readsCable 71 = .ok (.iload 4, 2) := by decide +kernel
theorem d12_readsCable_73 : decode b12_readsCable 73 = .ok (.iadd, 1) := by decide +kernel
theorem d12_readsCable_74 : decode b12_readsCable 74 = .ok (.iload 5, 2) := by decide +kernel
theorem d12_readsCable_76 : decode b12_readsCable 76 = .ok (.invokevirtual 204, 3) := by decide +kernel
theorem d12_readsCable_79 : decode b12_readsCable 79 = .ok (.aload_n 0, 1) := by decide +kernel
theorem d12_readsCable_80 : decode b12_readsCable 80 = .ok (.dup, 1) := by decide +kernel
theorem d12_readsCable_81 : decode b12_readsCable 81 = .ok (.getfield 192, 3) := by decide +kernel
theorem d12_readsCable_84 : decode b12_readsCable 84 = .ok (.iconst 1, 1) := by decide +kernel
theorem d12_readsCable_85 : decode b12_readsCable 85 = .ok (.iadd, 1) := by decide +kernel
theorem d12_readsCable_86 : decode b12_readsCable 86 = .ok (.putfield 192, 3) := by decide +kernel
theorem d12_readsCable_89 : decode b12_readsCable 89 = .ok (.return_, 1) := by decide +kernel
theorem fl_12_192 : Cond.fieldLink cn_12 192 (ft_12 12).1 (ft_12 12).2.1 (ft_12 12).2.2.1 ∈ ce_cm := ce_cm_of (List.mem_of_getElem? (i := 1133) (by decide +kernel)) (by decide +kernel)
theorem gf_12_192 (C : ce_Cx p s m args c meth cc nL ret cn_12 D ad cA B0 (ce_St aK aV B0)) (hH : ce_H D ad cA B0 X s h H locs) (hdg : decode cc pc = .ok (.getfield 192, 3)) (kk : W p l e0 R s m args below meth c H locs cells slots Q (F0 m (pc + 3) ls (.int (h 68 12) :: rest))) : W p l e0 R s m args below meth c H locs cells slots Q (F0 m pc ls (.ref (ad 68) :: rest)) := by
  exact ce_get C hH (k := 68) (ci := 12) (j := 12) (N := 43) (sj := none) (by decide) rfl rfl fw_12 (by decide) fl_12_192 rfl hdg kk
theorem pf_12_192 (C : ce_Cx p s m args c meth cc nL ret cn_12 D ad cA B0 (ce_St aK aV B0)) (hH : ce_H D ad cA B0 X s h H locs) {x : Int32} (hdg : decode cc pc = .ok (.putfield 192, 3)) (kk : ∀ (H1 : Heap) (locs1 : List Loc), ce_H D ad cA B0 X s (hp_up h 68 12 x) H1 locs1 → W p l e0 R s m args below meth c H1 locs1 cells slots Q (F0 m (pc + 3) ls rest)) : W p l e0 R s m args below meth c H locs cells slots Q (F0 m pc ls (.int x :: .ref (ad 68) :: rest)) := by
  exact ce_put C hH (k := 68) (ci := 12) (j := 12) (N := 43) (fy := fy_12) (sj := none) x (by decide) rfl rfl fw_12 fo_12 fn_12 (by decide) fl_12_192 rfl rfl (v := .int x) (by simp [ce_slot, upd]) rfl rfl hdg kk
theorem mc12_lays : Cond.code y12_lays b12_lays 4 none ∈ ce_cm := ce_cm_of (List.mem_of_getElem? (i := 1347) (by decide +kernel)) (by decide +kernel)
theorem ml_12_204 : Cond.methodLink cn_12 204 y12_lays ∈ ce_cm := ce_cm_of (List.mem_of_getElem? (i := 1344) (by decide +kernel)) (by decide +kernel)
theorem mi12_lays : Cond.instanceMethod y12_lays ∈ ce_cm := ce_cm_of (List.mem_of_getElem? (i := 1346) (by decide +kernel)) (by decide +kernel)
theorem ms12_lays : Cond.selects cn_12 y12_lays y12_lays ∈ ce_cm := ce_cm_of (List.mem_of_getElem? (i := 46) (by decide +kernel)) (by decide +kernel)
theorem mc12_readsPort : Cond.code y12_readsPort b12_readsPort 2 (some .int) ∈ ce_cm := ce_cm_of (List.mem_of_getElem? (i := 1342) (by decide +kernel)) (by decide +kernel)
theorem ml_12_199 : Cond.methodLink cn_12 199 y12_readsPort ∈ ce_cm := ce_cm_of (List.mem_of_getElem? (i := 1339) (by decide +kernel)) (by decide +kernel)
theorem mi12_readsPort : Cond.instanceMethod y12_readsPort ∈ ce_cm := ce_cm_of (List.mem_of_getElem? (i := 1341) (by decide +kernel)) (by decide +kernel)
theorem ms12_readsPort : Cond.selects cn_12 y12_readsPort y12_readsPort ∈ ce_cm := ce_cm_of (List.mem_of_getElem? (i := 45) (by decide +kernel)) (by decide +kernel)
theorem mc12_readsEnd : Cond.code y12_readsEnd b12_readsEnd 3 (some .int) ∈ ce_cm := ce_cm_of (List.mem_of_getElem? (i := 1337) (by decide +kernel)) (by decide +kernel)
theorem ml_12_195 : Cond.methodLink cn_12 195 y12_readsEnd ∈ ce_cm := ce_cm_of (List.mem_of_getElem? (i := 1334) (by decide +kernel)) (by decide +kernel)
theorem mi12_readsEnd : Cond.instanceMethod y12_readsEnd ∈ ce_cm := ce_cm_of (List.mem_of_getElem? (i := 1336) (by decide +kernel)) (by decide +kernel)
theorem ms12_readsEnd : Cond.selects cn_12 y12_readsEnd y12_readsEnd ∈ ce_cm := ce_cm_of (List.mem_of_getElem? (i := 44) (by decide +kernel)) (by decide +kernel)
def f12_readsCable_j14 (F : Nat)  (h : Hp) : Option (Hp) :=
  Option.bind (f12_passes F (1 : Int32) h) (fun o16 =>
    Option.bind (f12_readsEnd F (-1 : Int32) o16) (fun o21 =>
      Option.bind (f12_readsPort F o21.1 o21.2) (fun o27 =>
        Option.bind (f12_readsEnd F o21.1 o27.2) (fun o33 =>
          Option.bind (f12_readsPort F o33.1 o33.2) (fun o39 =>
            Option.bind (f12_named F 8 (1 : Int32) (9 : Int32) o39.2) (fun o50 =>
              if (o50.2 68 11) = 0 then
                Option.bind (f12_lays F (((4 : Int32) * o21.1) + o27.1) (((4 : Int32) * o33.1) + o39.1) o50.1 o50.2) (fun o76 =>
                  ce_nm (hp_up o76 68 12 ((o76 68 12) + (1 : Int32))) (fun h_86 =>
                    some h_86))
              else
                some o50.2))))))
set_option maxRecDepth 20000 in
theorem j12_readsCable_14 (C : ce_Cx p s m args c meth b12_readsCable 6 none cn_12 D ad cA B0 (ce_St aK aV B0)) (F : Nat)   (r : Hp) (h : Hp) (H : Heap) (locs : List Loc) (ls : Array Slot) (hH : ce_H D ad cA B0 [] s h H locs) (hl : lv_has ls 6 [(0, .ref (ad 68))]) (e : Option.bind (f12_readsCable_j14 F  h) some = some r) : W p l e0 { frames := 11, cells := 0, slots := 0, locals := 267 } s m args below meth c H locs 0 0 (MQ below (ce_Q D ad cA B0 (ce_St aK aV B0) none r) args s 0 0 (fun q => B0 ≤ q)) (F0 m 14 ls []) := by
  have hx9 := C.1
  have hb := C.2.1
  unfold f12_readsCable_j14 at e
  refine lv_aload_n hx9 hb d12_readsCable_14 rfl (lv_at hl 0 rfl) ?_
  refine lv_iconst (v := (1 : Int32)) hx9 hb d12_readsCable_15 (by decide) ?_
  obtain ⟨o16, eo16, e⟩ := ce_bd e
  refine ce_callV (As := [.int (1 : Int32)]) (rest := []) C (ce_sok aK aV B0) hH (c12_passes l D ad cA aK aV B0 C.2.2.2.2.2.2.1 F (1 : Int32)  h o16 eo16) lo_68.1 lo_68.2.choose_spec rfl rfl mc12_passes ml_12_149 mi12_passes ms12_passes mI_12 (n := 1) (by decide) rfl ⟨Nat.le_of_ble_eq_true rfl, Nat.le_of_ble_eq_true rfl⟩ ⟨Nat.le_of_ble_eq_true rfl, Nat.le_of_ble_eq_true rfl⟩ hl.1 rfl (Nat.le_of_ble_eq_true rfl) d12_readsCable_16 (fun H locs hH => ?_)
  refine W.eq (g2 := F0 m 19 ls []) rfl ?_
  refine lv_aload_n hx9 hb d12_readsCable_19 rfl (lv_at hl 0 rfl) ?_
  refine lv_iconst (v := (-1 : Int32)) hx9 hb d12_readsCable_20 (by decide) ?_
  obtain ⟨o21, eo21, e⟩ := ce_bd e
  refine ce_callV (As := [.int (-1 : Int32)]) (rest := []) C (ce_sok aK aV B0) hH (c12_readsEnd l D ad cA aK aV B0 C.2.2.2.2.2.2.1 F (-1 : Int32)  o16 o21 eo21) lo_68.1 lo_68.2.choose_spec rfl rfl mc12_readsEnd ml_12_195 mi12_readsEnd ms12_readsEnd mI_12 (n := 1) (by decide) rfl ⟨Nat.le_of_ble_eq_true rfl, Nat.le_of_ble_eq_true rfl⟩ ⟨Nat.le_of_ble_eq_true rfl, Nat.le_of_ble_eq_true rfl⟩ hl.1 rfl (Nat.le_of_ble_eq_true rfl) d12_readsCable_21 (fun H locs hH => ?_)
  refine W.eq (g2 := F0 m 24 ls [.int o21.1]) rfl ?_
  refine lv_istore_n (lv' := [(1, .int o21.1), (0, .ref (ad 68))]) hx9 hb d12_readsCable_24 rfl hl (by decide) rfl (fun ls hl => ?_)
  refine lv_aload_n hx9 hb d12_readsCable_25 rfl (lv_at hl 1 rfl) ?_
  refine lv_iload_n hx9 hb d12_readsCable_26 rfl (lv_at hl 0 rfl) ?_
  obtain ⟨o27, eo27, e⟩ := ce_bd e
  refine ce_callV (As := [.int o21.1]) (rest := []) C (ce_sok aK aV B0) hH (c12_readsPort l D ad cA aK aV B0 C.2.2.2.2.2.2.1 F o21.1  o21.2 o27 eo27) lo_68.1 lo_68.2.choose_spec rfl rfl mc12_readsPort ml_12_199 mi12_readsPort ms12_readsPort mI_12 (n := 1) (by decide) rfl ⟨Nat.le_of_ble_eq_true rfl, Nat.le_of_ble_eq_true rfl⟩ ⟨Nat.le_of_ble_eq_true rfl, Nat.le_of_ble_eq_true rfl⟩ hl.1 rfl (Nat.le_of_ble_eq_true rfl) d12_readsCable_27 (fun H locs hH => ?_)
  refine W.eq (g2 := F0 m 30 ls [.int o27.1]) rfl ?_
  refine lv_istore_n (lv' := [(2, .int o27.1), (1, .int o21.1), (0, .ref (ad 68))]) hx9 hb d12_readsCable_30 rfl hl (by decide) rfl (fun ls hl => ?_)
  refine lv_aload_n hx9 hb d12_readsCable_31 rfl (lv_at hl 2 rfl) ?_
  refine lv_iload_n hx9 hb d12_readsCable_32 rfl (lv_at hl 1 rfl) ?_
  obtain ⟨o33, eo33, e⟩ := ce_bd e
  refine ce_callV (As := [.int o21.1]) (rest := []) C (ce_sok aK aV B0) hH (c12_readsEnd l D ad cA aK aV B0 C.2.2.2.2.2.2.1 F o21.1  o27.2 o33 eo33) lo_68.1 lo_68.2.choose_spec rfl rfl mc12_readsEnd ml_12_195 mi12_readsEnd ms12_readsEnd mI_12 (n := 1) (by decide) rfl ⟨Nat.le_of_ble_eq_true rfl, Nat.le_of_ble_eq_true rfl⟩ ⟨Nat.le_of_ble_eq_true rfl, Nat.le_of_ble_eq_true rfl⟩ hl.1 rfl (Nat.le_of_ble_eq_true rfl) d12_readsCable_33 (fun H locs hH => ?_)
  refine W.eq (g2 := F0 m 36 ls [.int o33.1]) rfl ?_
  refine lv_istore_n (lv' := [(3, .int o33.1), (2, .int o27.1), (1, .int o21.1), (0, .ref (ad 68))]) hx9 hb d12_readsCable_36 rfl hl (by decide) rfl (fun ls hl => ?_)
  refine lv_aload_n hx9 hb d12_readsCable_37 rfl (lv_at hl 3 rfl) ?_
  refine lv_iload_n hx9 hb d12_readsCable_38 rfl (lv_at hl 0 rfl) ?_
  obtain ⟨o39, eo39, e⟩ := ce_bd e
  refine ce_callV (As := [.int o33.1]) (rest := []) C (ce_sok aK aV B0) hH (c12_readsPort l D ad cA aK aV B0 C.2.2.2.2.2.2.1 F o33.1  o33.2 o39 eo39) lo_68.1 lo_68.2.choose_spec rfl rfl mc12_readsPort ml_12_199 mi12_readsPort ms12_readsPort mI_12 (n := 1) (by decide) rfl ⟨Nat.le_of_ble_eq_true rfl, Nat.le_of_ble_eq_true rfl⟩ ⟨Nat.le_of_ble_eq_true rfl, Nat.le_of_ble_eq_true rfl⟩ hl.1 rfl (Nat.le_of_ble_eq_true rfl) d12_readsCable_39 (fun H locs hH => ?_)
  refine W.eq (g2 := F0 m 42 ls [.int o39.1]) rfl ?_
  refine lv_istore (lv' := [(4, .int o39.1), (3, .int o33.1), (2, .int o27.1), (1, .int o21.1), (0, .ref (ad 68))]) hx9 hb d12_readsCable_42 hl (by decide) rfl (fun ls hl => ?_)
  refine lv_aload_n hx9 hb d12_readsCable_44 rfl (lv_at hl 4 rfl) ?_
  refine va_ldcS hx9 hb C.2.2.2.1 (ce_srR C.2.2.2.2.2.2.2.2.2.2 17 rfl) d12_readsCable_45 ?_
  refine lv_iconst (v := (1 : Int32)) hx9 hb d12_readsCable_47 (by decide) ?_
  refine lv_bipush (v := (9 : Int32)) hx9 hb d12_readsCable_48 (by decide) ?_
  obtain ⟨o50, eo50, e⟩ := ce_bd e
  refine ce_callV (As := [.ref (aK 8), .int (1 : Int32), .int (9 : Int32)]) (rest := []) C (ce_sok aK aV B0) hH (c12_named l D ad cA aK aV B0 C.2.2.2.2.2.2.1 F 8 (1 : Int32) (9 : Int32) (by decide) o39.2 o50 eo50) lo_68.1 lo_68.2.choose_spec rfl rfl mc12_named ml_12_171 mi12_named ms12_named mI_12 (n := 3) (by decide) rfl ⟨Nat.le_of_ble_eq_true rfl, Nat.le_of_ble_eq_true rfl⟩ ⟨Nat.le_of_ble_eq_true rfl, Nat.le_of_ble_eq_true rfl⟩ hl.1 rfl (Nat.le_of_ble_eq_true rfl) d12_readsCable_50 (fun H locs hH => ?_)
  refine W.eq (g2 := F0 m 53 ls [.int o50.1]) rfl ?_
  refine lv_istore (lv' := [(5, .int o50.1), (4, .int o39.1), (3, .int o33.1), (2, .int o27.1), (1, .int o21.1), (0, .ref (ad 68))]) hx9 hb d12_readsCable_53 hl (by decide) rfl (fun ls hl => ?_)
  refine lv_aload_n hx9 hb d12_readsCable_55 rfl (lv_at hl 5 rfl) ?_
  refine gf_12_125 C hH d12_readsCable_56 ?_
  refine lv_if_ne (tgt := 89) hx9 hb d12_readsCable_59 (by decide) (fun hc59 => ?_) (fun hc59 => ?_)
  · have e := ce_if0 e hc59
    exact ce_vret C (ce_sok aK aV B0) hH (Option.some.inj e) d12_readsCable_89
  · have e := ce_if1 e hc59
    refine lv_aload_n hx9 hb d12_readsCable_62 rfl (lv_at hl 5 rfl) ?_
    refine lv_iconst (v := (4 : Int32)) hx9 hb d12_readsCable_63 (by decide) ?_
    refine lv_iload_n hx9 hb d12_readsCable_64 rfl (lv_at hl 4 rfl) ?_
    refine lv_imul hx9 hb d12_readsCable_65 ?_
    refine lv_iload_n hx9 hb d12_readsCable_66 rfl (lv_at hl 3 rfl) ?_
    refine lv_iadd hx9 hb d12_readsCable_67 ?_
    refine lv_iconst (v := (4 : Int32)) hx9 hb d12_readsCable_68 (by decide) ?_
    refine lv_iload_n hx9 hb d12_readsCable_69 rfl (lv_at hl 2 rfl) ?_
    refine lv_imul hx9 hb d12_readsCable_70 ?_
    refine lv_iload hx9 hb d12_readsCable_71 (lv_at hl 1 rfl) ?_
    refine lv_iadd hx9 hb d12_readsCable_73 ?_
    refine lv_iload hx9 hb d12_readsCable_74 (lv_at hl 0 rfl) ?_
    obtain ⟨o76, eo76, e⟩ := ce_bd e
    refine ce_callV (As := [.int (((4 : Int32) * o21.1) + o27.1), .int (((4 : Int32) * o33.1) + o39.1), .int o50.1]) (rest := []) C (ce_sok aK aV B0) hH (c12_lays l D ad cA aK aV B0 C.2.2.2.2.2.2.1 F (((4 : Int32) * o21.1) + o27.1) (((4 : Int32) * o33.1) + o39.1) o50.1  o50.2 o76 eo76) lo_68.1 lo_68.2.choose_spec rfl rfl mc12_lays ml_12_204 mi12_lays ms12_lays mI_12 (n := 3) (by decide) rfl ⟨Nat.le_of_ble_eq_true rfl, Nat.le_of_ble_eq_true rfl⟩ ⟨Nat.le_of_ble_eq_true rfl, Nat.le_of_ble_eq_true rfl⟩ hl.1 rfl (Nat.le_of_ble_eq_true rfl) d12_readsCable_76 (fun H locs hH => ?_)
    refine W.eq (g2 := F0 m 79 ls []) rfl ?_
    refine lv_aload_n hx9 hb d12_readsCable_79 rfl (lv_at hl 5 rfl) ?_
    refine lv_dup hx9 hb d12_readsCable_80 rfl ?_
    refine gf_12_192 C hH d12_readsCable_81 ?_
    refine lv_iconst (v := (1 : Int32)) hx9 hb d12_readsCable_84 (by decide) ?_
    refine lv_iadd hx9 hb d12_readsCable_85 ?_
    refine pf_12_192 C hH d12_readsCable_86 (fun H locs hH => ?_)
    obtain ⟨h_86, eh_86, e⟩ := ce_nmE e
    rw [← eh_86] at hH
    exact ce_vret C (ce_sok aK aV B0) hH (Option.some.inj e) d12_readsCable_89
def f12_readsCable (F : Nat)  (h : Hp) : Option (Hp) :=
  if (h 68 12) = (15 : Int32) then
    Option.bind (f12_faults F (3 : Int32) h) (fun o11 =>
      f12_readsCable_j14 F  o11)
  else
    f12_readsCable_j14 F  h
set_option maxRecDepth 20000 in
theorem c12_readsCable (l : Launch) (D : va_G) (ad : Nat → Nat) (cA : Nat → ClassId) (aK aV : Nat → Nat) (B0 : Nat) (hA : ce_Ad ad B0) (F : Nat)   (h : Hp) (r : Hp) (e : f12_readsCable F  h = some r) : ce_Ct l D ad cA B0 (ce_St aK aV B0) y12_readsCable b12_readsCable 6 none 11 267 0 0 [.ref (ad 68)] h none r := by
  refine ce_enter hA (by decide) rfl (Nat.le_of_ble_eq_true rfl) (fun p e0 s m below meth c ls C hH hl => ?_)
  have hl : lv_has ls 6 [(0, .ref (ad 68))] := hl
  have hx := C.1
  have hb := C.2.1
  have e : Option.bind _ some = some r := (congrArg (fun z => Option.bind z some) e).trans rfl
  unfold f12_readsCable at e
  refine lv_aload_n hx hb d12_readsCable_0 rfl (lv_at hl 0 rfl) ?_
  refine gf_12_192 C hH d12_readsCable_1 ?_
  refine lv_bipush (v := (15 : Int32)) hx hb d12_readsCable_4 (by decide) ?_
  refine lv_icmp_ne (tgt := 14) hx hb d12_readsCable_6 (by decide) (fun hc6 => ?_) (fun hc6 => ?_)
  · have e := ce_if0 e hc6
    exact j12_readsCable_14 C F   r h _ _ _ hH (lv_sub hl [0] rfl) e
  · have e := ce_if1 e hc6
    refine lv_aload_n hx hb d12_readsCable_9 rfl (lv_at hl 0 rfl) ?_
    refine lv_iconst (v := (3 : Int32)) hx hb d12_readsCable_10 (by decide) ?_
    obtain ⟨o11, eo11, e⟩ := ce_bd e
    refine ce_callV (As := [.int (3 : Int32)]) (rest := []) C (ce_sok aK aV B0) hH (c12_faults l D ad cA aK aV B0 C.2.2.2.2.2.2.1 F (3 : Int32)  h o11 eo11) lo_68.1 lo_68.2.choose_spec rfl rfl mc12_faults ml_12_142 mi12_faults ms12_faults mI_12 (n := 1) (by decide) rfl ⟨Nat.le_of_ble_eq_true rfl, Nat.le_of_ble_eq_true rfl⟩ ⟨Nat.le_of_ble_eq_true rfl, Nat.le_of_ble_eq_true rfl⟩ hl.1 rfl (Nat.le_of_ble_eq_true rfl) d12_readsCable_11 (fun H locs hH => ?_)
    refine W.eq (g2 := F0 m 14 ls []) rfl ?_
    exact j12_readsCable_14 C F   r o11 _ _ _ hH (lv_sub hl [0] rfl) e
end C12
