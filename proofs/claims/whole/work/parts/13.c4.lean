-- C4: functions and contracts, written by wip/whole/gen (mgen.py, walk.py, walk2.py) out of the bytecode
section C4
variable {p : Program} {l : Launch} {e0 : Env} {R : Room} {s : State} {m : MethodId} {args : Array Value} {below : List Frame} {meth : Method} {c : Code} {H : Heap} {locs : List Loc} {cells slots : Nat} {Q : State → Prop}
variable {cc : ByteArray} {pc nL : Nat} {ret : Option FieldType} {ls : Array Slot} {rest : List Value} {D : va_G} {ad : Nat → Nat} {cA : Nat → ClassId} {B0 : Nat} {X : va_W} {h : Hp} {aK aV : Nat → Nat}
abbrev b3_contend : ByteArray := prog_5_method_7_code
def y3_contend : MethodName := ⟨cn_3, "contend", "(LCableElection$Net;I)V"⟩
theorem d3_contend_0 : decode b3_contend 0 = .ok (.aload_n 1, 1) := by decide +kernel
theorem d3_contend_1 : decode b3_contend 1 = .ok (.getfield 92, 3) := by decide +kernel
theorem d3_contend_4 : decode b3_contend 4 = .ok (.iload_n 2, 1) := by decide +kernel
theorem d3_contend_5 : decode b3_contend 5 = .ok (.iaload, 1) := by decide +kernel
theorem d3_contend_6 : decode b3_contend 6 = .ok (.istore_n 3, 1) := by decide +kernel
theorem d3_contend_7 : decode b3_contend 7 = .ok (.iload_n 2, 1) := by decide +kernel
theorem d3_contend_8 : decode b3_contend 8 = .ok (.invokestatic 89, 3) := by decide +kernel
theorem d3_contend_11 : decode b3_contend 11 = .ok (.istore 4, 2) := by decide +kernel
theorem d3_contend_13 : decode b3_contend 13 = .ok (.iload_n 3, 1) := by decide +kernel
theorem d3_contend_14 : decode b3_contend 14 = .ok (.invokestatic 89, 3) := by decide +kernel
theorem d3_contend_17 : decode b3_contend 17 = .ok (.istore 5, 2) := by decide +kernel
theorem d3_contend_19 : decode b3_contend 19 = .ok (.iconst 2, 1) := by decide +kernel
theorem d3_contend_20 : decode b3_contend 20 = .ok (.aload_n 1, 1) := by decide +kernel
theorem d3_contend_21 : decode b3_contend 21 = .ok (.getfield 95, 3) := by decide +kernel
theorem d3_contend_24 : decode b3_contend 24 = .ok (.iload_n 2, 1) := by decide +kernel
theorem d3_contend_25 : decode b3_contend 25 = .ok (.iaload, 1) := by decide +kernel
theorem d3_contend_26 : decode b3_contend 26 = .ok (.imul, 1) := by decide +kernel
theorem d3_contend_27 : decode b3_contend 27 = .ok (.istore 6, 2) := by decide +kernel
theorem d3_contend_29 : decode b3_contend 29 = .ok (.aload_n 0, 1) := by decide +kernel
theorem d3_contend_30 : decode b3_contend 30 = .ok (.getfield 27, 3) := by decide +kernel
theorem d3_contend_33 : decode b3_contend 33 = .ok (.iload_n 2, 1) := by decide +kernel
theorem d3_contend_34 : decode b3_contend 34 = .ok (.iaload, 1) := by decide +kernel
theorem d3_contend_35 : decode b3_contend 35 = .ok (.aload_n 0, 1) := by decide +kernel
theorem d3_contend_36 : decode b3_contend 36 = .ok (.getfield 27, 3) := by decide +kernel
theorem d3_contend_39 : decode b3_contend 39 = .ok (.iload_n 3, 1) := by decide +kernel
theorem d3_contend_40 : decode b3_contend 40 = .ok (.iaload, 1) := by decide +kernel
theorem d3_contend_41 : decode b3_contend 41 = .ok (.invokestatic 98, 3) := by decide +kernel
theorem d3_contend_44 : decode b3_contend 44 = .ok (.istore 7, 2) := by decide +kernel
theorem d3_contend_46 : decode b3_contend 46 = .ok (.iconst (-1), 1) := by decide +kernel
theorem d3_contend_47 : decode b3_contend 47 = .ok (.istore 8, 2) := by decide +kernel
theorem d3_contend_49 : decode b3_contend 49 = .ok (.iconst 0, 1) := by decide +kernel
theorem d3_contend_50 : decode b3_contend 50 = .ok (.istore 9, 2) := by decide +kernel
theorem d3_contend_52 : decode b3_contend 52 = .ok (.iload 9, 2) := by decide +kernel
theorem d3_contend_54 : decode b3_contend 54 = .ok (.bipush 10, 2) := by decide +kernel
theorem d3_contend_56 : decode b3_contend 56 = .ok (.if_icmp .ge 101, 3) := by decide +kernel
theorem d3_contend_59 : decode b3_contend 59 = .ok (.iload 8, 2) := by decide +kernel
theorem d3_contend_61 : decode b3_contend 61 = .ok (.iconst (-1), 1) := by decide +kernel
theorem d3_contend_62 : decode b3_contend 62 = .ok (.if_icmp .ne 95, 3) := by decide +kernel
theorem d3_contend_65 : decode b3_contend 65 = .ok (.aload_n 1, 1) := by decide +kernel
theorem d3_contend_66 : decode b3_contend 66 = .ok (.iload 4, 2) := by decide +kernel
theorem d3_contend_68 : decode b3_contend 68 = .ok (.iload 9, 2) := by decide +kernel
theorem d3_contend_70 : decode b3_contend 70 = .ok (.invokevirtual 101, 3) := by decide +kernel
theorem d3_contend_73 : decode b3_contend 73 = .ok (.istore 10, 2) := by decide +kernel
theorem d3_contend_75 : decode b3_contend 75 = .ok (.aload_n 1, 1) := by decide +kernel
theorem d3_contend_76 : decode b3_contend 76 = .ok (.iload 5, 2) := by decide +kernel
theorem d3_contend_78 : decode b3_contend 78 = .ok (.iload 9, 2) := by decide +kernel
theorem d3_contend_80 : decode b3_contend 80 = .ok (.invokevirtual 101, 3) := by decide +kernel
theorem d3_contend_83 : decode b3_contend 83 = .ok (.istore 11, 2) := by decide +kernel
theorem d3_contend_85 : decode b3_contend 85 = .ok (.aload_n 0, 1) := by decide +kernel
theorem d3_contend_86 : decode b3_contend 86 = .ok (.getfield 18, 3) := by decide +kernel
theorem d3_contend_89 : decode b3_contend 89 = .ok (.iload 4, 2) := by decide +kernel
theorem d3_contend_91 : decode b3_contend 91 = .ok (.dup2, 1) := by decide +kernel
theorem d3_contend_92 : decode b3_contend 92 = .ok (.iaload, 1) := by decide +kernel
theorem d3_contend_93 : decode b3_contend 93 = .ok (.iconst 1, 1) := by decide +kernel
theorem d3_contend_94 : decode b3_contend 94 = .ok (.iadd, 1) := by decide +kernel
theorem d3_contend_95 : decode b3_contend 95 = .ok (.iastore, 1) := by decide +kernel
theorem d3_contend_96 : decode b3_contend 96 = .ok (.aload_n 0, 1) := by decide +kernel
theorem d3_contend_97 : decode b3_contend 97 = .ok (.getfield 18, 3) := by decide +kernel
theorem d3_contend_100 : decode b3_contend 100 = .ok (.iload 5, 2) := by decide +kernel
theorem d3_contend_102 : decode b3_contend 102 = .ok (.dup2, 1) := by decide +kernel
theorem d3_contend_103 : decode b3_contend 103 = .ok (.iaload, 1) := by decide +kernel
theorem d3_contend_104 : decode b3_contend 104 = .ok (.iconst 1, 1) := by decide +kernel
theorem d3_contend_105 : decode b3_contend 105 = .ok (.iadd, 1) := by decide +kernel
theorem d3_contend_106 : decode b3_contend 106 = .ok (.iastore, 1) := by decide +kernel
theorem d3_contend_107 : decode b3_contend 107 = .ok (.iload 7, 2) := by decide +kernel
theorem d3_contend_109 : decode b3_contend 109 = .ok (.iload 6, 2) := by decide +kernel
theorem d3_contend_111 : decode b3_contend 111 = .ok (.iload 10, 2) := by decide +kernel
theorem d3_contend_113 : decode b3_contend 113 = .ok (.iload 11, 2) := by decide +kernel
theorem d3_contend_115 : decode b3_contend 115 = .ok (.iadd, 1) := by decide +kernel
theorem d3_contend_116 : decode b3_contend 116 = .ok (.ifCond .ne 7, 3) := by decide +kernel
theorem d3_contend_119 : decode b3_contend 119 = .ok (.iconst 2, 1) := by decide +kernel
theorem d3_contend_120 : decode b3_contend 120 = .ok (.goto 5, 3) := by decide +kernel
theorem d3_contend_123 : decode b3_contend 123 = .ok (.bipush 6, 2) := by decide +kernel
theorem d3_contend_125 : decode b3_contend 125 = .ok (.iadd, 1) := by decide +kernel
theorem d3_contend_126 : decode b3_contend 126 = .ok (.iadd, 1) := by decide +kernel
theorem d3_contend_127 : decode b3_contend 127 = .ok (.istore 7, 2) := by decide +kernel
theorem d3_contend_129 : decode b3_contend 129 = .ok (.iload 10, 2) := by decide +kernel
theorem d3_contend_131 : decode b3_contend 131 = .ok (.iload 11, 2) := by decide +kernel
theorem d3_contend_133 : decode b3_contend 133 = .ok (.if_icmp .eq 18, 3) := by decide +kernel
theorem d3_contend_136 : decode b3_contend 136 = .ok (.iload 10, 2) := by decide +kernel
theorem d3_contend_138 : decode b3_contend 138 = .ok (.iconst 1, 1) := by decide +kernel
theorem d3_contend_139 : decode b3_contend 139 = .ok (.if_icmp .ne 8, 3) := by decide +kernel
theorem d3_contend_142 : decode b3_contend 142 = .ok (.iload 4, 2) := by decide +kernel
theorem d3_contend_144 : decode b3_contend 144 = .ok (.goto 5, 3) := by decide +kernel
theorem d3_contend_147 : decode b3_contend 147 = .ok (.iload 5, 2) := by decide +kernel
theorem d3_contend_149 : decode b3_contend 149 = .ok (.istore 8, 2) := by decide +kernel
theorem d3_contend_151 : decode b3_contend 151 = .ok (.iinc 9 1, 3) := by decide +kernel
theorem d3_contend_154 : decode b3_contend 154 = .ok (.goto (-102), 3) := by decide +kernel
theorem d3_contend_157 : decode b3_contend 157 = .ok (.iload 8, 2) := by decide +kernel
theorem d3_contend_159 : decode b3_contend 159 = .ok (.iconst (-1), 1) := by decide +kernel
theorem d3_contend_160 : decode b3_contend 160 = .ok (.if_icmp .ne 12, 3) := by decide +kernel
theorem d3_contend_163 : decode b3_contend 163 = .ok (.iload 4, 2) := by decide +kernel
theorem d3_contend_165 : decode b3_contend 165 = .ok (.iload 5, 2) := by decide +kernel
theorem d3_contend_167 : decode b3_contend 167 = .ok (.invokestatic 98, 3) := by decide +kernel
theorem d3_contend_170 : decode b3_contend 170 = .ok (.istore 8, 2) := by decide +kernel
theorem d3_contend_172 : decode b3_contend 172 = .ok (.aload_n 0, 1) := by decide +kernel
theorem d3_contend_173 : decode b3_contend 173 = .ok (.getfield 15, 3) := by decide +kernel
theorem d3_contend_176 : decode b3_contend 176 = .ok (.iload 8, 2) := by decide +kernel
theorem d3_contend_178 : decode b3_contend 178 = .ok (.iload 7, 2) := by decide +kernel
theorem d3_contend_180 : decode b3_contend 180 = .ok (.iastore, 1) := by decide +kernel
theorem d3_contend_181 : decode b3_contend 181 = .ok (.aload_n 0, 1) := by decide +kernel
theorem d3_contend_182 : decode b3_contend 182 = .ok (.getfield 21, 3) := by decide +kernel
theorem d3_contend_185 : decode b3_contend 185 = .ok (.iload 8, 2) := by decide +kernel
theorem d3_contend_187 : decode b3_contend 187 = .ok (.iconst (-1), 1) := by decide +kernel
theorem d3_contend_188 : decode b3_contend 188 = .ok (.iastore, 1) := by decide +kernel
theorem d3_contend_189 : decode b3_contend 189 = .ok (.return_, 1) := by decide +kernel
theorem ml_3_98 : Cond.methodLink cn_3 98 Lib.Math.max.name ∈ ce_cm := ce_cm_of (List.mem_of_getElem? (i := 758) (by decide +kernel)) (by decide +kernel)
theorem fl_3_18 : Cond.fieldLink cn_3 18 (ft_3 2).1 (ft_3 2).2.1 (ft_3 2).2.2.1 ∈ ce_cm := ce_cm_of (List.mem_of_getElem? (i := 384) (by decide +kernel)) (by decide +kernel)
theorem gf_3_18 (C : ce_Cx p s m args c meth cc nL ret cn_3 D ad cA B0 (ce_St aK aV B0)) (hH : ce_H D ad cA B0 X s h H locs) {k : Nat} (hk : ce_isEl k) (hdg : decode cc pc = .ok (.getfield 18, 3)) (kk : W p l e0 R s m args below meth c H locs cells slots Q (F0 m (pc + 3) ls (.ref (ad (k + 3)) :: rest))) : W p l e0 R s m args below meth c H locs cells slots Q (F0 m pc ls (.ref (ad k) :: rest)) := by
  rcases hk with rfl | rfl
  · exact ce_get C hH (k := 48) (ci := 3) (j := 2) (N := 6) (sj := some (some 51)) (by decide) rfl rfl fw_3 (by decide) fl_3_18 rfl hdg kk
  · exact ce_get C hH (k := 55) (ci := 3) (j := 2) (N := 6) (sj := some (some 58)) (by decide) rfl rfl fw_3 (by decide) fl_3_18 rfl hdg kk
theorem la_El_3 {k : Nat} (hk : ce_isEl k) : k + 3 < 96 ∧ ce_lay (k + 3) = .inl (0, 10) := by rcases hk with rfl | rfl <;> exact ⟨by decide, rfl⟩
theorem mc5_coinOf : Cond.code y5_coinOf b5_coinOf 3 (some .int) ∈ ce_cm := ce_cm_of (List.mem_of_getElem? (i := 764) (by decide +kernel)) (by decide +kernel)
theorem ml_3_101 : Cond.methodLink cn_3 101 y5_coinOf ∈ ce_cm := ce_cm_of (List.mem_of_getElem? (i := 761) (by decide +kernel)) (by decide +kernel)
theorem mi5_coinOf : Cond.instanceMethod y5_coinOf ∈ ce_cm := ce_cm_of (List.mem_of_getElem? (i := 762) (by decide +kernel)) (by decide +kernel)
theorem ms5_coinOf : Cond.selects cn_5 y5_coinOf y5_coinOf ∈ ce_cm := ce_cm_of (List.mem_of_getElem? (i := 763) (by decide +kernel)) (by decide +kernel)
def f3_contend_b52 (F : Nat) (k0 : Nat) (k1 : Nat) (x4 : Int32) (x5 : Int32) (x6 : Int32) (x7 : Int32) (x8 : Int32) (x9 : Int32) (h : Hp) : Option ((Int32 × Int32 × Int32 × Hp) ⊕ (Int32 × Int32 × Hp)) :=
  if (10 : Int32) ≤ x9 then
    some (.inr (x7, x8, h))
  else
    if x8 = (-1 : Int32) then
      Option.bind (f5_coinOf F k1 x4 x9 h) (fun o70 =>
        Option.bind (f5_coinOf F k1 x5 x9 o70.2) (fun o80 =>
          if ce_in x4 10 = true then
            if ce_in x4 10 = true then
              ce_nm (hp_up o80.2 (k0 + 3) (x4).toNatClampNeg ((o80.2 (k0 + 3) (x4).toNatClampNeg) + (1 : Int32))) (fun h_95 =>
                if ce_in x5 10 = true then
                  if ce_in x5 10 = true then
                    ce_nm (hp_up h_95 (k0 + 3) (x5).toNatClampNeg ((h_95 (k0 + 3) (x5).toNatClampNeg) + (1 : Int32))) (fun h_106 =>
                      if (o70.1 + o80.1) = 0 then
                        if o70.1 = o80.1 then
                          some (.inl (x7 + (x6 + (2 : Int32)), x8, x9 + (1 : Int32), h_106))
                        else
                          if o70.1 = (1 : Int32) then
                            some (.inl (x7 + (x6 + (2 : Int32)), x4, x9 + (1 : Int32), h_106))
                          else
                            some (.inl (x7 + (x6 + (2 : Int32)), x5, x9 + (1 : Int32), h_106))
                      else
                        if o70.1 = o80.1 then
                          some (.inl (x7 + (x6 + (6 : Int32)), x8, x9 + (1 : Int32), h_106))
                        else
                          if o70.1 = (1 : Int32) then
                            some (.inl (x7 + (x6 + (6 : Int32)), x4, x9 + (1 : Int32), h_106))
                          else
                            some (.inl (x7 + (x6 + (6 : Int32)), x5, x9 + (1 : Int32), h_106)))
                  else none
                else none)
            else none
          else none))
    else
      some (.inr (x7, x8, h))
set_option maxRecDepth 20000 in
theorem l3_contend_52 (C : ce_Cx p s m args c meth b3_contend 12 none cn_3 D ad cA B0 (ce_St aK aV B0)) (F : Nat) (k0 : Nat) (k1 : Nat) (x4 : Int32) (x5 : Int32) (x6 : Int32) (hk0 : ce_isEl k0) (hk1 : ce_isNet k1) (r : Hp) (g : (Int32 × Int32 × Hp) → Option (Hp)) (hx : ∀ (x7 : Int32) (x8 : Int32) (h : Hp) (H : Heap) (locs : List Loc) (ls : Array Slot), ce_H D ad cA B0 [] s h H locs → lv_has ls 12 [(0, .ref (ad k0)), (4, .int x4), (5, .int x5), (7, .int x7), (8, .int x8)] → g (x7, x8, h) = some r → W p l e0 { frames := 1, cells := 0, slots := 0, locals := 24 } s m args below meth c H locs 0 0 (MQ below (ce_Q D ad cA B0 (ce_St aK aV B0) none r) args s 0 0 (fun q => B0 ≤ q)) (F0 m 157 ls [])) : ∀ (n : Nat) (x7 : Int32) (x8 : Int32) (x9 : Int32) (h : Hp) (H : Heap) (locs : List Loc) (ls : Array Slot), ce_H D ad cA B0 [] s h H locs → lv_has ls 12 [(0, .ref (ad k0)), (1, .ref (ad k1)), (4, .int x4), (5, .int x5), (6, .int x6), (7, .int x7), (8, .int x8), (9, .int x9)] → Option.bind (ce_it (fun (st : Int32 × Int32 × Int32 × Hp) => f3_contend_b52 F k0 k1 x4 x5 x6 st.1 st.2.1 st.2.2.1 st.2.2.2) n (x7, x8, x9, h)) g = some r → W p l e0 { frames := 1, cells := 0, slots := 0, locals := 24 } s m args below meth c H locs 0 0 (MQ below (ce_Q D ad cA B0 (ce_St aK aV B0) none r) args s 0 0 (fun q => B0 ≤ q)) (F0 m 52 ls []) := by
  intro n
  induction n with
  | zero =>
    intro x7 x8 x9 h H locs ls hH hl e
    exact absurd e (fun z => by cases z)
  | succ n ih =>
    intro x7 x8 x9 h H locs ls hH hl e
    have hx9 := C.1
    have hb := C.2.1
    have e : Option.bind (f3_contend_b52 F k0 k1 x4 x5 x6 x7 x8 x9 h) _ = some r := ce_it_bd e
    unfold f3_contend_b52 at e
    refine lv_iload hx9 hb d3_contend_52 (lv_at hl 7 rfl) ?_
    refine lv_bipush (v := (10 : Int32)) hx9 hb d3_contend_54 (by decide) ?_
    refine lv_icmp_ge (tgt := 157) hx9 hb d3_contend_56 (by decide) (fun hc56 => ?_) (fun hc56 => ?_)
    · have e := ce_if1 e hc56
      exact hx x7 x8 h _ _ _ hH (lv_sub hl [0, 2, 3, 5, 6] rfl) e
    · have e := ce_if0 e hc56
      refine lv_iload hx9 hb d3_contend_59 (lv_at hl 6 rfl) ?_
      refine lv_iconst (v := (-1 : Int32)) hx9 hb d3_contend_61 (by decide) ?_
      refine lv_icmp_ne (tgt := 157) hx9 hb d3_contend_62 (by decide) (fun hc62 => ?_) (fun hc62 => ?_)
      · have e := ce_if0 e hc62
        exact hx x7 x8 h _ _ _ hH (lv_sub hl [0, 2, 3, 5, 6] rfl) e
      · have e := ce_if1 e hc62
        refine lv_aload_n hx9 hb d3_contend_65 rfl (lv_at hl 1 rfl) ?_
        refine lv_iload hx9 hb d3_contend_66 (lv_at hl 2 rfl) ?_
        refine lv_iload hx9 hb d3_contend_68 (lv_at hl 7 rfl) ?_
        obtain ⟨o70, eo70, e⟩ := ce_bd e
        refine ce_callV (As := [.int x4, .int x9]) (rest := []) C (ce_sok aK aV B0) hH (c5_coinOf l D ad cA aK aV B0 C.2.2.2.2.2.2.1 F k1 x4 x9 hk1 h o70 eo70) (lk_Net hk1).1 (lk_Net hk1).2.choose_spec rfl rfl mc5_coinOf ml_3_101 mi5_coinOf ms5_coinOf mI_5 (n := 2) (by decide) rfl ⟨Nat.le_of_ble_eq_true rfl, Nat.le_of_ble_eq_true rfl⟩ ⟨Nat.le_of_ble_eq_true rfl, Nat.le_of_ble_eq_true rfl⟩ hl.1 rfl (Nat.le_of_ble_eq_true rfl) d3_contend_70 (fun H locs hH => ?_)
        refine W.eq (g2 := F0 m 73 ls [.int o70.1]) rfl ?_
        refine lv_istore (lv' := [(10, .int o70.1), (0, .ref (ad k0)), (1, .ref (ad k1)), (4, .int x4), (5, .int x5), (6, .int x6), (7, .int x7), (8, .int x8), (9, .int x9)]) hx9 hb d3_contend_73 hl (by decide) rfl (fun ls hl => ?_)
        refine lv_aload_n hx9 hb d3_contend_75 rfl (lv_at hl 2 rfl) ?_
        refine lv_iload hx9 hb d3_contend_76 (lv_at hl 4 rfl) ?_
        refine lv_iload hx9 hb d3_contend_78 (lv_at hl 8 rfl) ?_
        obtain ⟨o80, eo80, e⟩ := ce_bd e
        refine ce_callV (As := [.int x5, .int x9]) (rest := []) C (ce_sok aK aV B0) hH (c5_coinOf l D ad cA aK aV B0 C.2.2.2.2.2.2.1 F k1 x5 x9 hk1 o70.2 o80 eo80) (lk_Net hk1).1 (lk_Net hk1).2.choose_spec rfl rfl mc5_coinOf ml_3_101 mi5_coinOf ms5_coinOf mI_5 (n := 2) (by decide) rfl ⟨Nat.le_of_ble_eq_true rfl, Nat.le_of_ble_eq_true rfl⟩ ⟨Nat.le_of_ble_eq_true rfl, Nat.le_of_ble_eq_true rfl⟩ hl.1 rfl (Nat.le_of_ble_eq_true rfl) d3_contend_80 (fun H locs hH => ?_)
        refine W.eq (g2 := F0 m 83 ls [.int o80.1]) rfl ?_
        refine lv_istore (lv' := [(11, .int o80.1), (10, .int o70.1), (0, .ref (ad k0)), (1, .ref (ad k1)), (4, .int x4), (5, .int x5), (6, .int x6), (7, .int x7), (8, .int x8), (9, .int x9)]) hx9 hb d3_contend_83 hl (by decide) rfl (fun ls hl => ?_)
        refine lv_aload_n hx9 hb d3_contend_85 rfl (lv_at hl 2 rfl) ?_
        refine gf_3_18 C hH hk0 d3_contend_86 ?_
        refine lv_iload hx9 hb d3_contend_89 (lv_at hl 4 rfl) ?_
        refine lv_dup2_11 hx9 hb d3_contend_91 rfl rfl ?_
        obtain ⟨hi92, e⟩ := ce_gd e
        refine ce_iald C hH (la_El_3 hk0).1 (la_El_3 hk0).2 (ce_in_vp hi92) d3_contend_92 ?_
        refine lv_iconst (v := (1 : Int32)) hx9 hb d3_contend_93 (by decide) ?_
        refine lv_iadd hx9 hb d3_contend_94 ?_
        obtain ⟨hi95, e⟩ := ce_gd e
        refine ce_iast C hH (la_El_3 hk0).1 (la_El_3 hk0).2 (ce_in_vp hi95) d3_contend_95 (fun H locs hH => ?_)
        obtain ⟨h_95, eh_95, e⟩ := ce_nmE e
        rw [← eh_95] at hH
        refine lv_aload_n hx9 hb d3_contend_96 rfl (lv_at hl 2 rfl) ?_
        refine gf_3_18 C hH hk0 d3_contend_97 ?_
        refine lv_iload hx9 hb d3_contend_100 (lv_at hl 5 rfl) ?_
        refine lv_dup2_11 hx9 hb d3_contend_102 rfl rfl ?_
        obtain ⟨hi103, e⟩ := ce_gd e
        refine ce_iald C hH (la_El_3 hk0).1 (la_El_3 hk0).2 (ce_in_vp hi103) d3_contend_103 ?_
        refine lv_iconst (v := (1 : Int32)) hx9 hb d3_contend_104 (by decide) ?_
        refine lv_iadd hx9 hb d3_contend_105 ?_
        obtain ⟨hi106, e⟩ := ce_gd e
        refine ce_iast C hH (la_El_3 hk0).1 (la_El_3 hk0).2 (ce_in_vp hi106) d3_contend_106 (fun H locs hH => ?_)
        obtain ⟨h_106, eh_106, e⟩ := ce_nmE e
        rw [← eh_106] at hH
        refine lv_iload hx9 hb d3_contend_107 (lv_at hl 7 rfl) ?_
        refine lv_iload hx9 hb d3_contend_109 (lv_at hl 6 rfl) ?_
        refine lv_iload hx9 hb d3_contend_111 (lv_at hl 1 rfl) ?_
        refine lv_iload hx9 hb d3_contend_113 (lv_at hl 0 rfl) ?_
        refine lv_iadd hx9 hb d3_contend_115 ?_
        refine lv_if_ne (tgt := 123) hx9 hb d3_contend_116 (by decide) (fun hc116 => ?_) (fun hc116 => ?_)
        · have e := ce_if0 e hc116
          refine lv_bipush (v := (6 : Int32)) hx9 hb d3_contend_123 (by decide) ?_
          refine lv_iadd hx9 hb d3_contend_125 ?_
          refine lv_iadd hx9 hb d3_contend_126 ?_
          refine lv_istore (lv' := [(7, .int (x7 + (x6 + (6 : Int32)))), (11, .int o80.1), (10, .int o70.1), (0, .ref (ad k0)), (1, .ref (ad k1)), (4, .int x4), (5, .int x5), (6, .int x6), (8, .int x8), (9, .int x9)]) hx9 hb d3_contend_127 hl (by decide) rfl (fun ls hl => ?_)
          refine lv_iload hx9 hb d3_contend_129 (lv_at hl 2 rfl) ?_
          refine lv_iload hx9 hb d3_contend_131 (lv_at hl 1 rfl) ?_
          refine lv_icmp_eq (tgt := 151) hx9 hb d3_contend_133 (by decide) (fun hc133 => ?_) (fun hc133 => ?_)
          · have e := ce_if1 e hc133
            refine lv_iinc (v := x9 + (1 : Int32)) (lv' := [(9, .int (x9 + (1 : Int32))), (7, .int (x7 + (x6 + (6 : Int32)))), (11, .int o80.1), (10, .int o70.1), (0, .ref (ad k0)), (1, .ref (ad k1)), (4, .int x4), (5, .int x5), (6, .int x6), (8, .int x8)]) hx9 hb d3_contend_151 hl (k := 9) rfl rfl (by decide) rfl (fun ls hl => ?_)
            refine lv_goto (tgt := 52) hx9 hb d3_contend_154 (by decide) ?_
            exact ih (x7 + (x6 + (6 : Int32))) x8 (x9 + (1 : Int32)) h_106 _ _ _ hH (lv_sub hl [4, 5, 6, 7, 8, 1, 9, 0] rfl) e
          · have e := ce_if0 e hc133
            refine lv_iload hx9 hb d3_contend_136 (lv_at hl 2 rfl) ?_
            refine lv_iconst (v := (1 : Int32)) hx9 hb d3_contend_138 (by decide) ?_
            refine lv_icmp_ne (tgt := 147) hx9 hb d3_contend_139 (by decide) (fun hc139 => ?_) (fun hc139 => ?_)
            · have e := ce_if0 e hc139
              refine lv_iload hx9 hb d3_contend_147 (lv_at hl 6 rfl) ?_
              refine lv_istore (lv' := [(8, .int x5), (7, .int (x7 + (x6 + (6 : Int32)))), (11, .int o80.1), (10, .int o70.1), (0, .ref (ad k0)), (1, .ref (ad k1)), (4, .int x4), (5, .int x5), (6, .int x6), (9, .int x9)]) hx9 hb d3_contend_149 hl (by decide) rfl (fun ls hl => ?_)
              refine lv_iinc (v := x9 + (1 : Int32)) (lv' := [(9, .int (x9 + (1 : Int32))), (8, .int x5), (7, .int (x7 + (x6 + (6 : Int32)))), (11, .int o80.1), (10, .int o70.1), (0, .ref (ad k0)), (1, .ref (ad k1)), (4, .int x4), (5, .int x5), (6, .int x6)]) hx9 hb d3_contend_151 hl (k := 9) rfl rfl (by decide) rfl (fun ls hl => ?_)
              refine lv_goto (tgt := 52) hx9 hb d3_contend_154 (by decide) ?_
              exact ih (x7 + (x6 + (6 : Int32))) x5 (x9 + (1 : Int32)) h_106 _ _ _ hH (lv_sub hl [5, 6, 7, 8, 9, 2, 1, 0] rfl) e
            · have e := ce_if1 e hc139
              refine lv_iload hx9 hb d3_contend_142 (lv_at hl 5 rfl) ?_
              refine lv_goto (tgt := 149) hx9 hb d3_contend_144 (by decide) ?_
              refine lv_istore (lv' := [(8, .int x4), (7, .int (x7 + (x6 + (6 : Int32)))), (11, .int o80.1), (10, .int o70.1), (0, .ref (ad k0)), (1, .ref (ad k1)), (4, .int x4), (5, .int x5), (6, .int x6), (9, .int x9)]) hx9 hb d3_contend_149 hl (by decide) rfl (fun ls hl => ?_)
              refine lv_iinc (v := x9 + (1 : Int32)) (lv' := [(9, .int (x9 + (1 : Int32))), (8, .int x4), (7, .int (x7 + (x6 + (6 : Int32)))), (11, .int o80.1), (10, .int o70.1), (0, .ref (ad k0)), (1, .ref (ad k1)), (4, .int x4), (5, .int x5), (6, .int x6)]) hx9 hb d3_contend_151 hl (k := 9) rfl rfl (by decide) rfl (fun ls hl => ?_)
              refine lv_goto (tgt := 52) hx9 hb d3_contend_154 (by decide) ?_
              exact ih (x7 + (x6 + (6 : Int32))) x4 (x9 + (1 : Int32)) h_106 _ _ _ hH (lv_sub hl [5, 6, 7, 8, 9, 2, 1, 0] rfl) e
        · have e := ce_if1 e hc116
          refine lv_iconst (v := (2 : Int32)) hx9 hb d3_contend_119 (by decide) ?_
          refine lv_goto (tgt := 125) hx9 hb d3_contend_120 (by decide) ?_
          refine lv_iadd hx9 hb d3_contend_125 ?_
          refine lv_iadd hx9 hb d3_contend_126 ?_
          refine lv_istore (lv' := [(7, .int (x7 + (x6 + (2 : Int32)))), (11, .int o80.1), (10, .int o70.1), (0, .ref (ad k0)), (1, .ref (ad k1)), (4, .int x4), (5, .int x5), (6, .int x6), (8, .int x8), (9, .int x9)]) hx9 hb d3_contend_127 hl (by decide) rfl (fun ls hl => ?_)
          refine lv_iload hx9 hb d3_contend_129 (lv_at hl 2 rfl) ?_
          refine lv_iload hx9 hb d3_contend_131 (lv_at hl 1 rfl) ?_
          refine lv_icmp_eq (tgt := 151) hx9 hb d3_contend_133 (by decide) (fun hc133 => ?_) (fun hc133 => ?_)
          · have e := ce_if1 e hc133
            refine lv_iinc (v := x9 + (1 : Int32)) (lv' := [(9, .int (x9 + (1 : Int32))), (7, .int (x7 + (x6 + (2 : Int32)))), (11, .int o80.1), (10, .int o70.1), (0, .ref (ad k0)), (1, .ref (ad k1)), (4, .int x4), (5, .int x5), (6, .int x6), (8, .int x8)]) hx9 hb d3_contend_151 hl (k := 9) rfl rfl (by decide) rfl (fun ls hl => ?_)
            refine lv_goto (tgt := 52) hx9 hb d3_contend_154 (by decide) ?_
            exact ih (x7 + (x6 + (2 : Int32))) x8 (x9 + (1 : Int32)) h_106 _ _ _ hH (lv_sub hl [4, 5, 6, 7, 8, 1, 9, 0] rfl) e
          · have e := ce_if0 e hc133
            refine lv_iload hx9 hb d3_contend_136 (lv_at hl 2 rfl) ?_
            refine lv_iconst (v := (1 : Int32)) hx9 hb d3_contend_138 (by decide) ?_
            refine lv_icmp_ne (tgt := 147) hx9 hb d3_contend_139 (by decide) (fun hc139 => ?_) (fun hc139 => ?_)
            · have e := ce_if0 e hc139
              refine lv_iload hx9 hb d3_contend_147 (lv_at hl 6 rfl) ?_
              refine lv_istore (lv' := [(8, .int x5), (7, .int (x7 + (x6 + (2 : Int32)))), (11, .int o80.1), (10, .int o70.1), (0, .ref (ad k0)), (1, .ref (ad k1)), (4, .int x4), (5, .int x5), (6, .int x6), (9, .int x9)]) hx9 hb d3_contend_149 hl (by decide) rfl (fun ls hl => ?_)
              refine lv_iinc (v := x9 + (1 : Int32)) (lv' := [(9, .int (x9 + (1 : Int32))), (8, .int x5), (7, .int (x7 + (x6 + (2 : Int32)))), (11, .int o80.1), (10, .int o70.1), (0, .ref (ad k0)), (1, .ref (ad k1)), (4, .int x4), (5, .int x5), (6, .int x6)]) hx9 hb d3_contend_151 hl (k := 9) rfl rfl (by decide) rfl (fun ls hl => ?_)
              refine lv_goto (tgt := 52) hx9 hb d3_contend_154 (by decide) ?_
              exact ih (x7 + (x6 + (2 : Int32))) x5 (x9 + (1 : Int32)) h_106 _ _ _ hH (lv_sub hl [5, 6, 7, 8, 9, 2, 1, 0] rfl) e
            · have e := ce_if1 e hc139
              refine lv_iload hx9 hb d3_contend_142 (lv_at hl 5 rfl) ?_
              refine lv_goto (tgt := 149) hx9 hb d3_contend_144 (by decide) ?_
              refine lv_istore (lv' := [(8, .int x4), (7, .int (x7 + (x6 + (2 : Int32)))), (11, .int o80.1), (10, .int o70.1), (0, .ref (ad k0)), (1, .ref (ad k1)), (4, .int x4), (5, .int x5), (6, .int x6), (9, .int x9)]) hx9 hb d3_contend_149 hl (by decide) rfl (fun ls hl => ?_)
              refine lv_iinc (v := x9 + (1 : Int32)) (lv' := [(9, .int (x9 + (1 : Int32))), (8, .int x4), (7, .int (x7 + (x6 + (2 : Int32)))), (11, .int o80.1), (10, .int o70.1), (0, .ref (ad k0)), (1, .ref (ad k1)), (4, .int x4), (5, .int x5), (6, .int x6)]) hx9 hb d3_contend_151 hl (k := 9) rfl rfl (by decide) rfl (fun ls hl => ?_)
              refine lv_goto (tgt := 52) hx9 hb d3_contend_154 (by decide) ?_
              exact ih (x7 + (x6 + (2 : Int32))) x4 (x9 + (1 : Int32)) h_106 _ _ _ hH (lv_sub hl [5, 6, 7, 8, 9, 2, 1, 0] rfl) e
def f3_contend (F : Nat) (k0 : Nat) (k1 : Nat) (x2 : Int32) (h : Hp) : Option (Hp) :=
  if ce_in x2 40 = true then
    Option.bind (f11_nodeOf F x2 h) (fun o8 =>
      Option.bind (f11_nodeOf F (h (k1 + 5) (x2).toNatClampNeg) o8.2) (fun o14 =>
        if ce_in x2 40 = true then
          if ce_in x2 40 = true then
            if ce_in (h (k1 + 5) (x2).toNatClampNeg) 40 = true then
              Option.bind (ce_it (fun (st : Int32 × Int32 × Int32 × Hp) => f3_contend_b52 F k0 k1 o8.1 o14.1 ((2 : Int32) * (o14.2 (k1 + 6) (x2).toNatClampNeg)) st.1 st.2.1 st.2.2.1 st.2.2.2) F ((if (o14.2 (k0 + 6) (x2).toNatClampNeg) < (o14.2 (k0 + 6) ((h (k1 + 5) (x2).toNatClampNeg)).toNatClampNeg) then (o14.2 (k0 + 6) ((h (k1 + 5) (x2).toNatClampNeg)).toNatClampNeg) else (o14.2 (k0 + 6) (x2).toNatClampNeg)), (-1 : Int32), (0 : Int32), o14.2)) (fun o52 =>
                if o52.2.1 = (-1 : Int32) then
                  if ce_in (if o8.1 < o14.1 then o14.1 else o8.1) 10 = true then
                    ce_nm (hp_up o52.2.2 (k0 + 2) ((if o8.1 < o14.1 then o14.1 else o8.1)).toNatClampNeg o52.1) (fun h_180 =>
                      if ce_in (if o8.1 < o14.1 then o14.1 else o8.1) 10 = true then
                        ce_nm (hp_up h_180 (k0 + 4) ((if o8.1 < o14.1 then o14.1 else o8.1)).toNatClampNeg (-1 : Int32)) (fun h_188 =>
                          some h_188)
                      else none)
                  else none
                else
                  if ce_in o52.2.1 10 = true then
                    ce_nm (hp_up o52.2.2 (k0 + 2) (o52.2.1).toNatClampNeg o52.1) (fun h_180 =>
                      if ce_in o52.2.1 10 = true then
                        ce_nm (hp_up h_180 (k0 + 4) (o52.2.1).toNatClampNeg (-1 : Int32)) (fun h_188 =>
                          some h_188)
                      else none)
                  else none)
            else none
          else none
        else none))
  else none
set_option maxRecDepth 20000 in
theorem c3_contend (l : Launch) (D : va_G) (ad : Nat → Nat) (cA : Nat → ClassId) (aK aV : Nat → Nat) (B0 : Nat) (hA : ce_Ad ad B0) (F : Nat) (k0 : Nat) (k1 : Nat) (x2 : Int32) (hk0 : ce_isEl k0) (hk1 : ce_isNet k1) (h : Hp) (r : Hp) (e : f3_contend F k0 k1 x2 h = some r) : ce_Ct l D ad cA B0 (ce_St aK aV B0) y3_contend b3_contend 12 none 1 24 0 0 [.ref (ad k0), .ref (ad k1), .int x2] h none r := by
  refine ce_enter hA (by decide) rfl (Nat.le_of_ble_eq_true rfl) (fun p e0 s m below meth c ls C hH hl => ?_)
  have hl : lv_has ls 12 [(0, .ref (ad k0)), (1, .ref (ad k1)), (2, .int x2)] := hl
  have hx := C.1
  have hb := C.2.1
  have e : Option.bind _ some = some r := (congrArg (fun z => Option.bind z some) e).trans rfl
  unfold f3_contend at e
  refine lv_aload_n hx hb d3_contend_0 rfl (lv_at hl 1 rfl) ?_
  refine gf_3_92 C hH hk1 d3_contend_1 ?_
  refine lv_iload_n hx hb d3_contend_4 rfl (lv_at hl 2 rfl) ?_
  obtain ⟨hi5, e⟩ := ce_gd e
  refine ce_iald C hH (la_Net_5 hk1).1 (la_Net_5 hk1).2 (ce_in_vp hi5) d3_contend_5 ?_
  refine lv_istore_n (lv' := [(3, .int (h (k1 + 5) (x2).toNatClampNeg)), (0, .ref (ad k0)), (1, .ref (ad k1)), (2, .int x2)]) hx hb d3_contend_6 rfl hl (by decide) rfl (fun ls hl => ?_)
  refine lv_iload_n hx hb d3_contend_7 rfl (lv_at hl 3 rfl) ?_
  obtain ⟨o8, eo8, e⟩ := ce_bd e
  refine ce_callN (As := [.int x2]) (rest := []) C (ce_sok aK aV B0) hH (c11_nodeOf l D ad cA aK aV B0 C.2.2.2.2.2.2.1 F x2  h o8 eo8) mc11_nodeOf (ce_nwW C.2.2.2.2.2.2.2.2.2.2 16 rfl) mt11_nodeOf mI_11 (n := 1) (by decide) rfl ⟨Nat.le_of_ble_eq_true rfl, Nat.le_of_ble_eq_true rfl⟩ ⟨Nat.le_of_ble_eq_true rfl, Nat.le_of_ble_eq_true rfl⟩ hl.1 rfl (Nat.le_of_ble_eq_true rfl) d3_contend_8 (fun H locs hH => ?_)
  refine W.eq (g2 := F0 m 11 ls [.int o8.1]) rfl ?_
  refine lv_istore (lv' := [(4, .int o8.1), (3, .int (h (k1 + 5) (x2).toNatClampNeg)), (0, .ref (ad k0)), (1, .ref (ad k1)), (2, .int x2)]) hx hb d3_contend_11 hl (by decide) rfl (fun ls hl => ?_)
  refine lv_iload_n hx hb d3_contend_13 rfl (lv_at hl 1 rfl) ?_
  obtain ⟨o14, eo14, e⟩ := ce_bd e
  refine ce_callN (As := [.int (h (k1 + 5) (x2).toNatClampNeg)]) (rest := []) C (ce_sok aK aV B0) hH (c11_nodeOf l D ad cA aK aV B0 C.2.2.2.2.2.2.1 F (h (k1 + 5) (x2).toNatClampNeg)  o8.2 o14 eo14) mc11_nodeOf (ce_nwW C.2.2.2.2.2.2.2.2.2.2 16 rfl) mt11_nodeOf mI_11 (n := 1) (by decide) rfl ⟨Nat.le_of_ble_eq_true rfl, Nat.le_of_ble_eq_true rfl⟩ ⟨Nat.le_of_ble_eq_true rfl, Nat.le_of_ble_eq_true rfl⟩ hl.1 rfl (Nat.le_of_ble_eq_true rfl) d3_contend_14 (fun H locs hH => ?_)
  refine W.eq (g2 := F0 m 17 ls [.int o14.1]) rfl ?_
  refine lv_istore (lv' := [(5, .int o14.1), (4, .int o8.1), (3, .int (h (k1 + 5) (x2).toNatClampNeg)), (0, .ref (ad k0)), (1, .ref (ad k1)), (2, .int x2)]) hx hb d3_contend_17 hl (by decide) rfl (fun ls hl => ?_)
  refine lv_iconst (v := (2 : Int32)) hx hb d3_contend_19 (by decide) ?_
  refine lv_aload_n hx hb d3_contend_20 rfl (lv_at hl 4 rfl) ?_
  refine gf_3_95 C hH hk1 d3_contend_21 ?_
  refine lv_iload_n hx hb d3_contend_24 rfl (lv_at hl 5 rfl) ?_
  obtain ⟨hi25, e⟩ := ce_gd e
  refine ce_iald C hH (la_Net_6 hk1).1 (la_Net_6 hk1).2 (ce_in_vp hi25) d3_contend_25 ?_
  refine lv_imul hx hb d3_contend_26 ?_
  refine lv_istore (lv' := [(6, .int ((2 : Int32) * (o14.2 (k1 + 6) (x2).toNatClampNeg))), (5, .int o14.1), (4, .int o8.1), (3, .int (h (k1 + 5) (x2).toNatClampNeg)), (0, .ref (ad k0)), (1, .ref (ad k1)), (2, .int x2)]) hx hb d3_contend_27 hl (by decide) rfl (fun ls hl => ?_)
  refine lv_aload_n hx hb d3_contend_29 rfl (lv_at hl 4 rfl) ?_
  refine gf_3_27 C hH hk0 d3_contend_30 ?_
  refine lv_iload_n hx hb d3_contend_33 rfl (lv_at hl 6 rfl) ?_
  obtain ⟨hi34, e⟩ := ce_gd e
  refine ce_iald C hH (la_El_6 hk0).1 (la_El_6 hk0).2 (ce_in_vp hi34) d3_contend_34 ?_
  refine lv_aload_n hx hb d3_contend_35 rfl (lv_at hl 4 rfl) ?_
  refine gf_3_27 C hH hk0 d3_contend_36 ?_
  refine lv_iload_n hx hb d3_contend_39 rfl (lv_at hl 3 rfl) ?_
  obtain ⟨hi40, e⟩ := ce_gd e
  refine ce_iald C hH (la_El_6 hk0).1 (la_El_6 hk0).2 (ce_in_vp hi40) d3_contend_40 ?_
  refine va_mmax hx hb (C.2.2.1.trans hl.1.symm) C.2.2.2.1 (C.2.2.2.2.1 _ ml_3_98) (C.2.2.2.2.1 _ mt_Mmax) (C.2.2.2.2.1 _ mI_M) (C.2.2.2.2.1 _ mc_Mmax) (Nat.le_of_ble_eq_true rfl) (Nat.le_of_ble_eq_true rfl) (Nat.le_of_ble_eq_true rfl) (Nat.le_of_ble_eq_true rfl) d3_contend_41 ?_
  refine lv_istore (lv' := [(7, .int (if (o14.2 (k0 + 6) (x2).toNatClampNeg) < (o14.2 (k0 + 6) ((h (k1 + 5) (x2).toNatClampNeg)).toNatClampNeg) then (o14.2 (k0 + 6) ((h (k1 + 5) (x2).toNatClampNeg)).toNatClampNeg) else (o14.2 (k0 + 6) (x2).toNatClampNeg))), (6, .int ((2 : Int32) * (o14.2 (k1 + 6) (x2).toNatClampNeg))), (5, .int o14.1), (4, .int o8.1), (3, .int (h (k1 + 5) (x2).toNatClampNeg)), (0, .ref (ad k0)), (1, .ref (ad k1)), (2, .int x2)]) hx hb d3_contend_44 hl (by decide) rfl (fun ls hl => ?_)
  refine lv_iconst (v := (-1 : Int32)) hx hb d3_contend_46 (by decide) ?_
  refine lv_istore (lv' := [(8, .int (-1 : Int32)), (7, .int (if (o14.2 (k0 + 6) (x2).toNatClampNeg) < (o14.2 (k0 + 6) ((h (k1 + 5) (x2).toNatClampNeg)).toNatClampNeg) then (o14.2 (k0 + 6) ((h (k1 + 5) (x2).toNatClampNeg)).toNatClampNeg) else (o14.2 (k0 + 6) (x2).toNatClampNeg))), (6, .int ((2 : Int32) * (o14.2 (k1 + 6) (x2).toNatClampNeg))), (5, .int o14.1), (4, .int o8.1), (3, .int (h (k1 + 5) (x2).toNatClampNeg)), (0, .ref (ad k0)), (1, .ref (ad k1)), (2, .int x2)]) hx hb d3_contend_47 hl (by decide) rfl (fun ls hl => ?_)
  refine lv_iconst (v := (0 : Int32)) hx hb d3_contend_49 (by decide) ?_
  refine lv_istore (lv' := [(9, .int (0 : Int32)), (8, .int (-1 : Int32)), (7, .int (if (o14.2 (k0 + 6) (x2).toNatClampNeg) < (o14.2 (k0 + 6) ((h (k1 + 5) (x2).toNatClampNeg)).toNatClampNeg) then (o14.2 (k0 + 6) ((h (k1 + 5) (x2).toNatClampNeg)).toNatClampNeg) else (o14.2 (k0 + 6) (x2).toNatClampNeg))), (6, .int ((2 : Int32) * (o14.2 (k1 + 6) (x2).toNatClampNeg))), (5, .int o14.1), (4, .int o8.1), (3, .int (h (k1 + 5) (x2).toNatClampNeg)), (0, .ref (ad k0)), (1, .ref (ad k1)), (2, .int x2)]) hx hb d3_contend_50 hl (by decide) rfl (fun ls hl => ?_)
  refine l3_contend_52 C F k0 k1 o8.1 o14.1 ((2 : Int32) * (o14.2 (k1 + 6) (x2).toNatClampNeg)) hk0 hk1 r _ (fun y52_7 y52_8 h_52 H locs ls hH hl e => ?_) F (if (o14.2 (k0 + 6) (x2).toNatClampNeg) < (o14.2 (k0 + 6) ((h (k1 + 5) (x2).toNatClampNeg)).toNatClampNeg) then (o14.2 (k0 + 6) ((h (k1 + 5) (x2).toNatClampNeg)).toNatClampNeg) else (o14.2 (k0 + 6) (x2).toNatClampNeg)) (-1 : Int32) (0 : Int32) o14.2 _ _ _ hH (lv_sub hl [7, 8, 5, 4, 3, 2, 1, 0] rfl) (ce_as e)
  try dsimp only at e
  refine lv_iload hx hb d3_contend_157 (lv_at hl 4 rfl) ?_
  refine lv_iconst (v := (-1 : Int32)) hx hb d3_contend_159 (by decide) ?_
  refine lv_icmp_ne (tgt := 172) hx hb d3_contend_160 (by decide) (fun hc160 => ?_) (fun hc160 => ?_)
  · have e := ce_if0 e hc160
    refine lv_aload_n hx hb d3_contend_172 rfl (lv_at hl 0 rfl) ?_
    refine gf_3_15 C hH hk0 d3_contend_173 ?_
    refine lv_iload hx hb d3_contend_176 (lv_at hl 4 rfl) ?_
    refine lv_iload hx hb d3_contend_178 (lv_at hl 3 rfl) ?_
    obtain ⟨hi180, e⟩ := ce_gd e
    refine ce_iast C hH (la_El_2 hk0).1 (la_El_2 hk0).2 (ce_in_vp hi180) d3_contend_180 (fun H locs hH => ?_)
    obtain ⟨h_180, eh_180, e⟩ := ce_nmE e
    rw [← eh_180] at hH
    refine lv_aload_n hx hb d3_contend_181 rfl (lv_at hl 0 rfl) ?_
    refine gf_3_21 C hH hk0 d3_contend_182 ?_
    refine lv_iload hx hb d3_contend_185 (lv_at hl 4 rfl) ?_
    refine lv_iconst (v := (-1 : Int32)) hx hb d3_contend_187 (by decide) ?_
    obtain ⟨hi188, e⟩ := ce_gd e
    refine ce_iast C hH (la_El_4 hk0).1 (la_El_4 hk0).2 (ce_in_vp hi188) d3_contend_188 (fun H locs hH => ?_)
    obtain ⟨h_188, eh_188, e⟩ := ce_nmE e
    rw [← eh_188] at hH
    exact ce_vret C (ce_sok aK aV B0) hH (Option.some.inj e) d3_contend_189
  · have e := ce_if1 e hc160
    refine lv_iload hx hb d3_contend_163 (lv_at hl 1 rfl) ?_
    refine lv_iload hx hb d3_contend_165 (lv_at hl 2 rfl) ?_
    refine va_mmax hx hb (C.2.2.1.trans hl.1.symm) C.2.2.2.1 (C.2.2.2.2.1 _ ml_3_98) (C.2.2.2.2.1 _ mt_Mmax) (C.2.2.2.2.1 _ mI_M) (C.2.2.2.2.1 _ mc_Mmax) (Nat.le_of_ble_eq_true rfl) (Nat.le_of_ble_eq_true rfl) (Nat.le_of_ble_eq_true rfl) (Nat.le_of_ble_eq_true rfl) d3_contend_167 ?_
    refine lv_istore (lv' := [(8, .int (if o8.1 < o14.1 then o14.1 else o8.1)), (0, .ref (ad k0)), (4, .int o8.1), (5, .int o14.1), (7, .int y52_7)]) hx hb d3_contend_170 hl (by decide) rfl (fun ls hl => ?_)
    refine lv_aload_n hx hb d3_contend_172 rfl (lv_at hl 1 rfl) ?_
    refine gf_3_15 C hH hk0 d3_contend_173 ?_
    refine lv_iload hx hb d3_contend_176 (lv_at hl 0 rfl) ?_
    refine lv_iload hx hb d3_contend_178 (lv_at hl 4 rfl) ?_
    obtain ⟨hi180, e⟩ := ce_gd e
    refine ce_iast C hH (la_El_2 hk0).1 (la_El_2 hk0).2 (ce_in_vp hi180) d3_contend_180 (fun H locs hH => ?_)
    obtain ⟨h_180, eh_180, e⟩ := ce_nmE e
    rw [← eh_180] at hH
    refine lv_aload_n hx hb d3_contend_181 rfl (lv_at hl 1 rfl) ?_
    refine gf_3_21 C hH hk0 d3_contend_182 ?_
    refine lv_iload hx hb d3_contend_185 (lv_at hl 0 rfl) ?_
    refine lv_iconst (v := (-1 : Int32)) hx hb d3_contend_187 (by decide) ?_
    obtain ⟨hi188, e⟩ := ce_gd e
    refine ce_iast C hH (la_El_4 hk0).1 (la_El_4 hk0).2 (ce_in_vp hi188) d3_contend_188 (fun H locs hH => ?_)
    obtain ⟨h_188, eh_188, e⟩ := ce_nmE e
    rw [← eh_188] at hH
    exact ce_vret C (ce_sok aK aV B0) hH (Option.some.inj e) d3_contend_189
abbrev b3_hold : ByteArray := prog_5_method_2_code
def y3_hold : MethodName := ⟨cn_3, "hold", "(LCableElection$Net;I)V"⟩
theorem d3_hold_0 : decode b3_hold 0 = .ok (.aload_n 0, 1) := by decide +kernel
theorem d3_hold_1 : decode b3_hold 1 = .ok (.getfield 9, 3) := by decide +kernel
theorem d3_hold_4 : decode b3_hold 4 = .ok (.iconst (-1), 1) := by decide +kernel
theorem d3_hold_5 : decode b3_hold 5 = .ok (.invokestatic 30, 3) := by decide +kernel
theorem d3_hold_8 : decode b3_hold 8 = .ok (.aload_n 0, 1) := by decide +kernel
theorem d3_hold_9 : decode b3_hold 9 = .ok (.getfield 15, 3) := by decide +kernel
theorem d3_hold_12 : decode b3_hold 12 = .ok (.iconst (-1), 1) := by decide +kernel
theorem d3_hold_13 : decode b3_hold 13 = .ok (.invokestatic 30, 3) := by decide +kernel
theorem d3_hold_16 : decode b3_hold 16 = .ok (.aload_n 0, 1) := by decide +kernel
theorem d3_hold_17 : decode b3_hold 17 = .ok (.getfield 18, 3) := by decide +kernel
theorem d3_hold_20 : decode b3_hold 20 = .ok (.iconst 0, 1) := by decide +kernel
theorem d3_hold_21 : decode b3_hold 21 = .ok (.invokestatic 30, 3) := by decide +kernel
theorem d3_hold_24 : decode b3_hold 24 = .ok (.aload_n 0, 1) := by decide +kernel
theorem d3_hold_25 : decode b3_hold 25 = .ok (.getfield 21, 3) := by decide +kernel
theorem d3_hold_28 : decode b3_hold 28 = .ok (.iconst (-1), 1) := by decide +kernel
theorem d3_hold_29 : decode b3_hold 29 = .ok (.invokestatic 30, 3) := by decide +kernel
theorem d3_hold_32 : decode b3_hold 32 = .ok (.aload_n 0, 1) := by decide +kernel
theorem d3_hold_33 : decode b3_hold 33 = .ok (.getfield 24, 3) := by decide +kernel
theorem d3_hold_36 : decode b3_hold 36 = .ok (.ldc 36, 2) := by decide +kernel
theorem d3_hold_38 : decode b3_hold 38 = .ok (.invokestatic 30, 3) := by decide +kernel
theorem d3_hold_41 : decode b3_hold 41 = .ok (.aload_n 0, 1) := by decide +kernel
theorem d3_hold_42 : decode b3_hold 42 = .ok (.getfield 27, 3) := by decide +kernel
theorem d3_hold_45 : decode b3_hold 45 = .ok (.ldc 36, 2) := by decide +kernel
theorem d3_hold_47 : decode b3_hold 47 = .ok (.invokestatic 30, 3) := by decide +kernel
theorem d3_hold_50 : decode b3_hold 50 = .ok (.iconst 0, 1) := by decide +kernel
theorem d3_hold_51 : decode b3_hold 51 = .ok (.istore_n 3, 1) := by decide +kernel
theorem d3_hold_52 : decode b3_hold 52 = .ok (.iconst 0, 1) := by decide +kernel
theorem d3_hold_53 : decode b3_hold 53 = .ok (.istore 4, 2) := by decide +kernel
theorem d3_hold_55 : decode b3_hold 55 = .ok (.iload 4, 2) := by decide +kernel
theorem d3_hold_57 : decode b3_hold 57 = .ok (.bipush 64, 2) := by decide +kernel
theorem d3_hold_59 : decode b3_hold 59 = .ok (.if_icmp .ge 83, 3) := by decide +kernel
theorem d3_hold_62 : decode b3_hold 62 = .ok (.iload_n 3, 1) := by decide +kernel
theorem d3_hold_63 : decode b3_hold 63 = .ok (.ldc 36, 2) := by decide +kernel
theorem d3_hold_65 : decode b3_hold 65 = .ok (.if_icmp .ge 77, 3) := by decide +kernel
theorem d3_hold_68 : decode b3_hold 68 = .ok (.iconst 0, 1) := by decide +kernel
theorem d3_hold_69 : decode b3_hold 69 = .ok (.istore 5, 2) := by decide +kernel
theorem d3_hold_71 : decode b3_hold 71 = .ok (.iload 5, 2) := by decide +kernel
theorem d3_hold_73 : decode b3_hold 73 = .ok (.aload_n 1, 1) := by decide +kernel
theorem d3_hold_74 : decode b3_hold 74 = .ok (.getfield 37, 3) := by decide +kernel
theorem d3_hold_77 : decode b3_hold 77 = .ok (.if_icmp .ge 53, 3) := by decide +kernel
theorem d3_hold_80 : decode b3_hold 80 = .ok (.aload_n 1, 1) := by decide +kernel
theorem d3_hold_81 : decode b3_hold 81 = .ok (.getfield 43, 3) := by decide +kernel
theorem d3_hold_84 : decode b3_hold 84 = .ok (.iload 5, 2) := by decide +kernel
theorem d3_hold_86 : decode b3_hold 86 = .ok (.baload, 1) := by decide +kernel
theorem d3_hold_87 : decode b3_hold 87 = .ok (.ifCond .ne 9, 3) := by decide +kernel
theorem d3_hold_90 : decode b3_hold 90 = .ok (.iload 5, 2) := by decide +kernel
theorem d3_hold_92 : decode b3_hold 92 = .ok (.iload_n 2, 1) := by decide +kernel
theorem d3_hold_93 : decode b3_hold 93 = .ok (.if_icmp .ne 7, 3) := by decide +kernel
theorem d3_hold_96 : decode b3_hold 96 = .ok (.iconst 1, 1) := by decide +kernel
theorem d3_hold_97 : decode b3_hold 97 = .ok (.goto 4, 3) := by decide +kernel
theorem d3_hold_100 : decode b3_hold 100 = .ok (.iconst 0, 1) := by decide +kernel
theorem d3_hold_101 : decode b3_hold 101 = .ok (.istore 6, 2) := by decide +kernel
theorem d3_hold_103 : decode b3_hold 103 = .ok (.aload_n 0, 1) := by decide +kernel
theorem d3_hold_104 : decode b3_hold 104 = .ok (.aload_n 1, 1) := by decide +kernel
theorem d3_hold_105 : decode b3_hold 105 = .ok (.iload 5, 2) := by decide +kernel
theorem d3_hold_107 : decode b3_hold 107 = .ok (.iload_n 3, 1) := by decide +kernel
theorem d3_hold_108 : decode b3_hold 108 = .ok (.iload 6, 2) := by decide +kernel
theorem d3_hold_110 : decode b3_hold 110 = .ok (.ifCond .eq 10, 3) := by decide +kernel
theorem d3_hold_113 : decode b3_hold 113 = .ok (.aload_n 1, 1) := by decide +kernel
theorem d3_hold_114 : decode b3_hold 114 = .ok (.getfield 47, 3) := by decide +kernel
theorem d3_hold_117 : decode b3_hold 117 = .ok (.goto 4, 3) := by decide +kernel
theorem d3_hold_120 : decode b3_hold 120 = .ok (.iconst 0, 1) := by decide +kernel
theorem d3_hold_121 : decode b3_hold 121 = .ok (.invokevirtual 50, 3) := by decide +kernel
theorem d3_hold_124 : decode b3_hold 124 = .ok (.iinc 5 1, 3) := by decide +kernel
theorem d3_hold_127 : decode b3_hold 127 = .ok (.goto (-56), 3) := by decide +kernel
theorem d3_hold_130 : decode b3_hold 130 = .ok (.aload_n 0, 1) := by decide +kernel
theorem d3_hold_131 : decode b3_hold 131 = .ok (.iload_n 3, 1) := by decide +kernel
theorem d3_hold_132 : decode b3_hold 132 = .ok (.invokevirtual 54, 3) := by decide +kernel
theorem d3_hold_135 : decode b3_hold 135 = .ok (.istore_n 3, 1) := by decide +kernel
theorem d3_hold_136 : decode b3_hold 136 = .ok (.iinc 4 1, 3) := by decide +kernel
theorem d3_hold_139 : decode b3_hold 139 = .ok (.goto (-84), 3) := by decide +kernel
theorem d3_hold_142 : decode b3_hold 142 = .ok (.iconst 0, 1) := by decide +kernel
theorem d3_hold_143 : decode b3_hold 143 = .ok (.istore 4, 2) := by decide +kernel
theorem d3_hold_145 : decode b3_hold 145 = .ok (.iload 4, 2) := by decide +kernel
theorem d3_hold_147 : decode b3_hold 147 = .ok (.bipush 40, 2) := by decide +kernel
theorem d3_hold_149 : decode b3_hold 149 = .ok (.if_icmp .ge 35, 3) := by decide +kernel
theorem d3_hold_152 : decode b3_hold 152 = .ok (.aload_n 1, 1) := by decide +kernel
theorem d3_hold_153 : decode b3_hold 153 = .ok (.iload 4, 2) := by decide +kernel
theorem d3_hold_155 : decode b3_hold 155 = .ok (.invokevirtual 58, 3) := by decide +kernel
theorem d3_hold_158 : decode b3_hold 158 = .ok (.ifCond .eq 20, 3) := by decide +kernel
theorem d3_hold_161 : decode b3_hold 161 = .ok (.aload_n 0, 1) := by decide +kernel
theorem d3_hold_162 : decode b3_hold 162 = .ok (.aload_n 1, 1) := by decide +kernel
theorem d3_hold_163 : decode b3_hold 163 = .ok (.iload 4, 2) := by decide +kernel
theorem d3_hold_165 : decode b3_hold 165 = .ok (.invokevirtual 62, 3) := by decide +kernel
theorem d3_hold_168 : decode b3_hold 168 = .ok (.ifCond .eq 10, 3) := by decide +kernel
theorem d3_hold_171 : decode b3_hold 171 = .ok (.aload_n 0, 1) := by decide +kernel
theorem d3_hold_172 : decode b3_hold 172 = .ok (.aload_n 1, 1) := by decide +kernel
theorem d3_hold_173 : decode b3_hold 173 = .ok (.iload 4, 2) := by decide +kernel
theorem d3_hold_175 : decode b3_hold 175 = .ok (.invokevirtual 66, 3) := by decide +kernel
theorem d3_hold_178 : decode b3_hold 178 = .ok (.iinc 4 1, 3) := by decide +kernel
theorem d3_hold_181 : decode b3_hold 181 = .ok (.goto (-36), 3) := by decide +kernel
theorem d3_hold_184 : decode b3_hold 184 = .ok (.return_, 1) := by decide +kernel
theorem fl_3_37 : Cond.fieldLink cn_3 37 (ft_5 3).1 (ft_5 3).2.1 (ft_5 3).2.2.1 ∈ ce_cm := ce_cm_of (List.mem_of_getElem? (i := 207) (by decide +kernel)) (by decide +kernel)
theorem gf_3_37 (C : ce_Cx p s m args c meth cc nL ret cn_3 D ad cA B0 (ce_St aK aV B0)) (hH : ce_H D ad cA B0 X s h H locs) {k : Nat} (hk : ce_isNet k) (hdg : decode cc pc = .ok (.getfield 37, 3)) (kk : W p l e0 R s m args below meth c H locs cells slots Q (F0 m (pc + 3) ls (.int (h k 3) :: rest))) : W p l e0 R s m args below meth c H locs cells slots Q (F0 m pc ls (.ref (ad k) :: rest)) := by
  rcases hk with rfl | rfl
  · exact ce_get C hH (k := 7) (ci := 5) (j := 3) (N := 11) (sj := none) (by decide) rfl rfl fw_5 (by decide) fl_3_37 rfl hdg kk
  · exact ce_get C hH (k := 14) (ci := 5) (j := 3) (N := 11) (sj := none) (by decide) rfl rfl fw_5 (by decide) fl_3_37 rfl hdg kk
theorem pf_3_37 (C : ce_Cx p s m args c meth cc nL ret cn_3 D ad cA B0 (ce_St aK aV B0)) (hH : ce_H D ad cA B0 X s h H locs) {k : Nat} (hk : ce_isNet k) {x : Int32} (hdg : decode cc pc = .ok (.putfield 37, 3)) (kk : ∀ (H1 : Heap) (locs1 : List Loc), ce_H D ad cA B0 X s (hp_up h k 3 x) H1 locs1 → W p l e0 R s m args below meth c H1 locs1 cells slots Q (F0 m (pc + 3) ls rest)) : W p l e0 R s m args below meth c H locs cells slots Q (F0 m pc ls (.int x :: .ref (ad k) :: rest)) := by
  rcases hk with rfl | rfl
  · exact ce_put C hH (k := 7) (ci := 5) (j := 3) (N := 11) (fy := fy_5) (sj := none) x (by decide) rfl rfl fw_5 fo_5 fn_5 (by decide) fl_3_37 rfl rfl (v := .int x) (by simp [ce_slot, upd]) rfl rfl hdg kk
  · exact ce_put C hH (k := 14) (ci := 5) (j := 3) (N := 11) (fy := fy_5) (sj := none) x (by decide) rfl rfl fw_5 fo_5 fn_5 (by decide) fl_3_37 rfl rfl (v := .int x) (by simp [ce_slot, upd]) rfl rfl hdg kk
theorem fl_3_43 : Cond.fieldLink cn_3 43 (ft_5 6).1 (ft_5 6).2.1 (ft_5 6).2.2.1 ∈ ce_cm := ce_cm_of (List.mem_of_getElem? (i := 221) (by decide +kernel)) (by decide +kernel)
theorem gf_3_43 (C : ce_Cx p s m args c meth cc nL ret cn_3 D ad cA B0 (ce_St aK aV B0)) (hH : ce_H D ad cA B0 X s h H locs) {k : Nat} (hk : ce_isNet k) (hdg : decode cc pc = .ok (.getfield 43, 3)) (kk : W p l e0 R s m args below meth c H locs cells slots Q (F0 m (pc + 3) ls (.ref (ad (k + 2)) :: rest))) : W p l e0 R s m args below meth c H locs cells slots Q (F0 m pc ls (.ref (ad k) :: rest)) := by
  rcases hk with rfl | rfl
  · exact ce_get C hH (k := 7) (ci := 5) (j := 6) (N := 11) (sj := some (some 9)) (by decide) rfl rfl fw_5 (by decide) fl_3_43 rfl hdg kk
  · exact ce_get C hH (k := 14) (ci := 5) (j := 6) (N := 11) (sj := some (some 16)) (by decide) rfl rfl fw_5 (by decide) fl_3_43 rfl hdg kk
theorem mc3_listen : Cond.code y3_listen b3_listen 9 none ∈ ce_cm := ce_cm_of (List.mem_of_getElem? (i := 731) (by decide +kernel)) (by decide +kernel)
theorem ml_3_50 : Cond.methodLink cn_3 50 y3_listen ∈ ce_cm := ce_cm_of (List.mem_of_getElem? (i := 728) (by decide +kernel)) (by decide +kernel)
theorem mi3_listen : Cond.instanceMethod y3_listen ∈ ce_cm := ce_cm_of (List.mem_of_getElem? (i := 730) (by decide +kernel)) (by decide +kernel)
theorem ms3_listen : Cond.selects cn_3 y3_listen y3_listen ∈ ce_cm := ce_cm_of (List.mem_of_getElem? (i := 13) (by decide +kernel)) (by decide +kernel)
theorem fl_3_47 : Cond.fieldLink cn_3 47 (ft_5 1).1 (ft_5 1).2.1 (ft_5 1).2.2.1 ∈ ce_cm := ce_cm_of (List.mem_of_getElem? (i := 196) (by decide +kernel)) (by decide +kernel)
theorem gf_3_47 (C : ce_Cx p s m args c meth cc nL ret cn_3 D ad cA B0 (ce_St aK aV B0)) (hH : ce_H D ad cA B0 X s h H locs) {k : Nat} (hk : ce_isNet k) (hdg : decode cc pc = .ok (.getfield 47, 3)) (kk : W p l e0 R s m args below meth c H locs cells slots Q (F0 m (pc + 3) ls (.int (h k 1) :: rest))) : W p l e0 R s m args below meth c H locs cells slots Q (F0 m pc ls (.ref (ad k) :: rest)) := by
  rcases hk with rfl | rfl
  · exact ce_get C hH (k := 7) (ci := 5) (j := 1) (N := 11) (sj := none) (by decide) rfl rfl fw_5 (by decide) fl_3_47 rfl hdg kk
  · exact ce_get C hH (k := 14) (ci := 5) (j := 1) (N := 11) (sj := none) (by decide) rfl rfl fw_5 (by decide) fl_3_47 rfl hdg kk
theorem pf_3_47 (C : ce_Cx p s m args c meth cc nL ret cn_3 D ad cA B0 (ce_St aK aV B0)) (hH : ce_H D ad cA B0 X s h H locs) {k : Nat} (hk : ce_isNet k) {x : Int32} (hdg : decode cc pc = .ok (.putfield 47, 3)) (kk : ∀ (H1 : Heap) (locs1 : List Loc), ce_H D ad cA B0 X s (hp_up h k 1 x) H1 locs1 → W p l e0 R s m args below meth c H1 locs1 cells slots Q (F0 m (pc + 3) ls rest)) : W p l e0 R s m args below meth c H locs cells slots Q (F0 m pc ls (.int x :: .ref (ad k) :: rest)) := by
  rcases hk with rfl | rfl
  · exact ce_put C hH (k := 7) (ci := 5) (j := 1) (N := 11) (fy := fy_5) (sj := none) x (by decide) rfl rfl fw_5 fo_5 fn_5 (by decide) fl_3_47 rfl rfl (v := .int x) (by simp [ce_slot, upd]) rfl rfl hdg kk
  · exact ce_put C hH (k := 14) (ci := 5) (j := 1) (N := 11) (fy := fy_5) (sj := none) x (by decide) rfl rfl fw_5 fo_5 fn_5 (by decide) fl_3_47 rfl rfl (v := .int x) (by simp [ce_slot, upd]) rfl rfl hdg kk
theorem mc3_nextTick : Cond.code y3_nextTick b3_nextTick 4 (some .int) ∈ ce_cm := ce_cm_of (List.mem_of_getElem? (i := 745) (by decide +kernel)) (by decide +kernel)
theorem ml_3_54 : Cond.methodLink cn_3 54 y3_nextTick ∈ ce_cm := ce_cm_of (List.mem_of_getElem? (i := 742) (by decide +kernel)) (by decide +kernel)
theorem mi3_nextTick : Cond.instanceMethod y3_nextTick ∈ ce_cm := ce_cm_of (List.mem_of_getElem? (i := 744) (by decide +kernel)) (by decide +kernel)
theorem ms3_nextTick : Cond.selects cn_3 y3_nextTick y3_nextTick ∈ ce_cm := ce_cm_of (List.mem_of_getElem? (i := 15) (by decide +kernel)) (by decide +kernel)
theorem mc3_contend : Cond.code y3_contend b3_contend 12 none ∈ ce_cm := ce_cm_of (List.mem_of_getElem? (i := 757) (by decide +kernel)) (by decide +kernel)
theorem ml_3_66 : Cond.methodLink cn_3 66 y3_contend ∈ ce_cm := ce_cm_of (List.mem_of_getElem? (i := 754) (by decide +kernel)) (by decide +kernel)
theorem mi3_contend : Cond.instanceMethod y3_contend ∈ ce_cm := ce_cm_of (List.mem_of_getElem? (i := 756) (by decide +kernel)) (by decide +kernel)
theorem ms3_contend : Cond.selects cn_3 y3_contend y3_contend ∈ ce_cm := ce_cm_of (List.mem_of_getElem? (i := 17) (by decide +kernel)) (by decide +kernel)
theorem mc3_isCalledBothWays : Cond.code y3_isCalledBothWays b3_isCalledBothWays 4 (some .boolean) ∈ ce_cm := ce_cm_of (List.mem_of_getElem? (i := 753) (by decide +kernel)) (by decide +kernel)
theorem ml_3_62 : Cond.methodLink cn_3 62 y3_isCalledBothWays ∈ ce_cm := ce_cm_of (List.mem_of_getElem? (i := 750) (by decide +kernel)) (by decide +kernel)
theorem mi3_isCalledBothWays : Cond.instanceMethod y3_isCalledBothWays ∈ ce_cm := ce_cm_of (List.mem_of_getElem? (i := 752) (by decide +kernel)) (by decide +kernel)
theorem ms3_isCalledBothWays : Cond.selects cn_3 y3_isCalledBothWays y3_isCalledBothWays ∈ ce_cm := ce_cm_of (List.mem_of_getElem? (i := 16) (by decide +kernel)) (by decide +kernel)
theorem mc5_isLesserEnd : Cond.code y5_isLesserEnd b5_isLesserEnd 2 (some .boolean) ∈ ce_cm := ce_cm_of (List.mem_of_getElem? (i := 749) (by decide +kernel)) (by decide +kernel)
theorem ml_3_58 : Cond.methodLink cn_3 58 y5_isLesserEnd ∈ ce_cm := ce_cm_of (List.mem_of_getElem? (i := 746) (by decide +kernel)) (by decide +kernel)
theorem mi5_isLesserEnd : Cond.instanceMethod y5_isLesserEnd ∈ ce_cm := ce_cm_of (List.mem_of_getElem? (i := 747) (by decide +kernel)) (by decide +kernel)
theorem ms5_isLesserEnd : Cond.selects cn_5 y5_isLesserEnd y5_isLesserEnd ∈ ce_cm := ce_cm_of (List.mem_of_getElem? (i := 748) (by decide +kernel)) (by decide +kernel)
theorem ml_3_30 : Cond.methodLink cn_3 30 y7_fill_53178 ∈ ce_cm := ce_cm_of (List.mem_of_getElem? (i := 726) (by decide +kernel)) (by decide +kernel)
def f3_hold_b71 (F : Nat) (k0 : Nat) (k1 : Nat) (x2 : Int32) (x3 : Int32) (x4 : Int32) (x5 : Int32) (h : Hp) : Option ((Int32 × Hp) ⊕ (Hp)) :=
  if (h k1 3) ≤ x5 then
    some (.inr h)
  else
    if ce_in x5 10 = true then
      if (h (k1 + 2) (x5).toNatClampNeg) = 0 then
        if x5 = x2 then
          if (1 : Int32) = 0 then
            Option.bind (f3_listen F k0 k1 x5 x3 (0 : Int32) h) (fun o121 =>
              some (.inl (x5 + (1 : Int32), o121)))
          else
            Option.bind (f3_listen F k0 k1 x5 x3 (h k1 1) h) (fun o121 =>
              some (.inl (x5 + (1 : Int32), o121)))
        else
          if (0 : Int32) = 0 then
            Option.bind (f3_listen F k0 k1 x5 x3 (0 : Int32) h) (fun o121 =>
              some (.inl (x5 + (1 : Int32), o121)))
          else
            Option.bind (f3_listen F k0 k1 x5 x3 (h k1 1) h) (fun o121 =>
              some (.inl (x5 + (1 : Int32), o121)))
      else
        if (1 : Int32) = 0 then
          Option.bind (f3_listen F k0 k1 x5 x3 (0 : Int32) h) (fun o121 =>
            some (.inl (x5 + (1 : Int32), o121)))
        else
          Option.bind (f3_listen F k0 k1 x5 x3 (h k1 1) h) (fun o121 =>
            some (.inl (x5 + (1 : Int32), o121)))
    else none
set_option maxRecDepth 20000 in
theorem l3_hold_71 (C : ce_Cx p s m args c meth b3_hold 7 none cn_3 D ad cA B0 (ce_St aK aV B0)) (F : Nat) (k0 : Nat) (k1 : Nat) (x2 : Int32) (x3 : Int32) (x4 : Int32) (hk0 : ce_isEl k0) (hk1 : ce_isNet k1) (r : Hp) (g : (Hp) → Option (Hp)) (hx : ∀  (h : Hp) (H : Heap) (locs : List Loc) (ls : Array Slot), ce_H D ad cA B0 [] s h H locs → lv_has ls 7 [(0, .ref (ad k0)), (1, .ref (ad k1)), (2, .int x2), (3, .int x3), (4, .int x4)] → g h = some r → W p l e0 { frames := 3, cells := 0, slots := 0, locals := 72 } s m args below meth c H locs 0 0 (MQ below (ce_Q D ad cA B0 (ce_St aK aV B0) none r) args s 0 0 (fun q => B0 ≤ q)) (F0 m 130 ls [])) : ∀ (n : Nat) (x5 : Int32) (h : Hp) (H : Heap) (locs : List Loc) (ls : Array Slot), ce_H D ad cA B0 [] s h H locs → lv_has ls 7 [(0, .ref (ad k0)), (1, .ref (ad k1)), (2, .int x2), (3, .int x3), (4, .int x4), (5, .int x5)] → Option.bind (ce_it (fun (st : Int32 × Hp) => f3_hold_b71 F k0 k1 x2 x3 x4 st.1 st.2) n (x5, h)) g = some r → W p l e0 { frames := 3, cells := 0, slots := 0, locals := 72 } s m args below meth c H locs 0 0 (MQ below (ce_Q D ad cA B0 (ce_St aK aV B0) none r) args s 0 0 (fun q => B0 ≤ q)) (F0 m 71 ls []) := by
  intro n
  induction n with
  | zero =>
    intro x5 h H locs ls hH hl e
    exact absurd e (fun z => by cases z)
  | succ n ih =>
    intro x5 h H locs ls hH hl e
    have hx9 := C.1
    have hb := C.2.1
    have e : Option.bind (f3_hold_b71 F k0 k1 x2 x3 x4 x5 h) _ = some r := ce_it_bd e
    unfold f3_hold_b71 at e
    refine lv_iload hx9 hb d3_hold_71 (lv_at hl 5 rfl) ?_
    refine lv_aload_n hx9 hb d3_hold_73 rfl (lv_at hl 1 rfl) ?_
    refine gf_3_37 C hH hk1 d3_hold_74 ?_
    refine lv_icmp_ge (tgt := 130) hx9 hb d3_hold_77 (by decide) (fun hc77 => ?_) (fun hc77 => ?_)
    · have e := ce_if1 e hc77
      exact hx  h _ _ _ hH (lv_sub hl [0, 1, 2, 3, 4] rfl) e
    · have e := ce_if0 e hc77
      refine lv_aload_n hx9 hb d3_hold_80 rfl (lv_at hl 1 rfl) ?_
      refine gf_3_43 C hH hk1 d3_hold_81 ?_
      refine lv_iload hx9 hb d3_hold_84 (lv_at hl 5 rfl) ?_
      obtain ⟨hi86, e⟩ := ce_gd e
      refine ce_zald C hH (la_Net_2 hk1).1 (la_Net_2 hk1).2 (ce_in_vp hi86) d3_hold_86 ?_
      refine lv_if_ne (tgt := 96) hx9 hb d3_hold_87 (by decide) (fun hc87 => ?_) (fun hc87 => ?_)
      · have e := ce_if0 e hc87
        refine lv_iconst (v := (1 : Int32)) hx9 hb d3_hold_96 (by decide) ?_
        refine lv_goto (tgt := 101) hx9 hb d3_hold_97 (by decide) ?_
        refine lv_istore (lv' := [(6, .int (1 : Int32)), (0, .ref (ad k0)), (1, .ref (ad k1)), (2, .int x2), (3, .int x3), (4, .int x4), (5, .int x5)]) hx9 hb d3_hold_101 hl (by decide) rfl (fun ls hl => ?_)
        refine lv_aload_n hx9 hb d3_hold_103 rfl (lv_at hl 1 rfl) ?_
        refine lv_aload_n hx9 hb d3_hold_104 rfl (lv_at hl 2 rfl) ?_
        refine lv_iload hx9 hb d3_hold_105 (lv_at hl 6 rfl) ?_
        refine lv_iload_n hx9 hb d3_hold_107 rfl (lv_at hl 4 rfl) ?_
        refine lv_iload hx9 hb d3_hold_108 (lv_at hl 0 rfl) ?_
        refine lv_if_eq (tgt := 120) hx9 hb d3_hold_110 (by decide) (fun hc110 => ?_) (fun hc110 => ?_)
        · have e := ce_if1 e hc110
          refine lv_iconst (v := (0 : Int32)) hx9 hb d3_hold_120 (by decide) ?_
          obtain ⟨o121, eo121, e⟩ := ce_bd e
          refine ce_callV (As := [.ref (ad k1), .int x5, .int x3, .int (0 : Int32)]) (rest := []) C (ce_sok aK aV B0) hH (c3_listen l D ad cA aK aV B0 C.2.2.2.2.2.2.1 F k0 k1 x5 x3 (0 : Int32) hk0 hk1 h o121 eo121) (lk_El hk0).1 (lk_El hk0).2.choose_spec rfl rfl mc3_listen ml_3_50 mi3_listen ms3_listen mI_3 (n := 4) (by decide) rfl ⟨Nat.le_of_ble_eq_true rfl, Nat.le_of_ble_eq_true rfl⟩ ⟨Nat.le_of_ble_eq_true rfl, Nat.le_of_ble_eq_true rfl⟩ hl.1 rfl (Nat.le_of_ble_eq_true rfl) d3_hold_121 (fun H locs hH => ?_)
          refine W.eq (g2 := F0 m 124 ls []) rfl ?_
          refine lv_iinc (v := x5 + (1 : Int32)) (lv' := [(5, .int (x5 + (1 : Int32))), (6, .int (1 : Int32)), (0, .ref (ad k0)), (1, .ref (ad k1)), (2, .int x2), (3, .int x3), (4, .int x4)]) hx9 hb d3_hold_124 hl (k := 6) rfl rfl (by decide) rfl (fun ls hl => ?_)
          refine lv_goto (tgt := 71) hx9 hb d3_hold_127 (by decide) ?_
          exact ih (x5 + (1 : Int32)) o121 _ _ _ hH (lv_sub hl [2, 3, 4, 5, 6, 0] rfl) e
        · have e := ce_if0 e hc110
          refine lv_aload_n hx9 hb d3_hold_113 rfl (lv_at hl 2 rfl) ?_
          refine gf_3_47 C hH hk1 d3_hold_114 ?_
          refine lv_goto (tgt := 121) hx9 hb d3_hold_117 (by decide) ?_
          obtain ⟨o121, eo121, e⟩ := ce_bd e
          refine ce_callV (As := [.ref (ad k1), .int x5, .int x3, .int (h k1 1)]) (rest := []) C (ce_sok aK aV B0) hH (c3_listen l D ad cA aK aV B0 C.2.2.2.2.2.2.1 F k0 k1 x5 x3 (h k1 1) hk0 hk1 h o121 eo121) (lk_El hk0).1 (lk_El hk0).2.choose_spec rfl rfl mc3_listen ml_3_50 mi3_listen ms3_listen mI_3 (n := 4) (by decide) rfl ⟨Nat.le_of_ble_eq_true rfl, Nat.le_of_ble_eq_true rfl⟩ ⟨Nat.le_of_ble_eq_true rfl, Nat.le_of_ble_eq_true rfl⟩ hl.1 rfl (Nat.le_of_ble_eq_true rfl) d3_hold_121 (fun H locs hH => ?_)
          refine W.eq (g2 := F0 m 124 ls []) rfl ?_
          refine lv_iinc (v := x5 + (1 : Int32)) (lv' := [(5, .int (x5 + (1 : Int32))), (6, .int (1 : Int32)), (0, .ref (ad k0)), (1, .ref (ad k1)), (2, .int x2), (3, .int x3), (4, .int x4)]) hx9 hb d3_hold_124 hl (k := 6) rfl rfl (by decide) rfl (fun ls hl => ?_)
          refine lv_goto (tgt := 71) hx9 hb d3_hold_127 (by decide) ?_
          exact ih (x5 + (1 : Int32)) o121 _ _ _ hH (lv_sub hl [2, 3, 4, 5, 6, 0] rfl) e
      · have e := ce_if1 e hc87
        refine lv_iload hx9 hb d3_hold_90 (lv_at hl 5 rfl) ?_
        refine lv_iload_n hx9 hb d3_hold_92 rfl (lv_at hl 2 rfl) ?_
        refine lv_icmp_ne (tgt := 100) hx9 hb d3_hold_93 (by decide) (fun hc93 => ?_) (fun hc93 => ?_)
        · have e := ce_if0 e hc93
          refine lv_iconst (v := (0 : Int32)) hx9 hb d3_hold_100 (by decide) ?_
          refine lv_istore (lv' := [(6, .int (0 : Int32)), (0, .ref (ad k0)), (1, .ref (ad k1)), (2, .int x2), (3, .int x3), (4, .int x4), (5, .int x5)]) hx9 hb d3_hold_101 hl (by decide) rfl (fun ls hl => ?_)
          refine lv_aload_n hx9 hb d3_hold_103 rfl (lv_at hl 1 rfl) ?_
          refine lv_aload_n hx9 hb d3_hold_104 rfl (lv_at hl 2 rfl) ?_
          refine lv_iload hx9 hb d3_hold_105 (lv_at hl 6 rfl) ?_
          refine lv_iload_n hx9 hb d3_hold_107 rfl (lv_at hl 4 rfl) ?_
          refine lv_iload hx9 hb d3_hold_108 (lv_at hl 0 rfl) ?_
          refine lv_if_eq (tgt := 120) hx9 hb d3_hold_110 (by decide) (fun hc110 => ?_) (fun hc110 => ?_)
          · have e := ce_if1 e hc110
            refine lv_iconst (v := (0 : Int32)) hx9 hb d3_hold_120 (by decide) ?_
            obtain ⟨o121, eo121, e⟩ := ce_bd e
            refine ce_callV (As := [.ref (ad k1), .int x5, .int x3, .int (0 : Int32)]) (rest := []) C (ce_sok aK aV B0) hH (c3_listen l D ad cA aK aV B0 C.2.2.2.2.2.2.1 F k0 k1 x5 x3 (0 : Int32) hk0 hk1 h o121 eo121) (lk_El hk0).1 (lk_El hk0).2.choose_spec rfl rfl mc3_listen ml_3_50 mi3_listen ms3_listen mI_3 (n := 4) (by decide) rfl ⟨Nat.le_of_ble_eq_true rfl, Nat.le_of_ble_eq_true rfl⟩ ⟨Nat.le_of_ble_eq_true rfl, Nat.le_of_ble_eq_true rfl⟩ hl.1 rfl (Nat.le_of_ble_eq_true rfl) d3_hold_121 (fun H locs hH => ?_)
            refine W.eq (g2 := F0 m 124 ls []) rfl ?_
            refine lv_iinc (v := x5 + (1 : Int32)) (lv' := [(5, .int (x5 + (1 : Int32))), (6, .int (0 : Int32)), (0, .ref (ad k0)), (1, .ref (ad k1)), (2, .int x2), (3, .int x3), (4, .int x4)]) hx9 hb d3_hold_124 hl (k := 6) rfl rfl (by decide) rfl (fun ls hl => ?_)
            refine lv_goto (tgt := 71) hx9 hb d3_hold_127 (by decide) ?_
            exact ih (x5 + (1 : Int32)) o121 _ _ _ hH (lv_sub hl [2, 3, 4, 5, 6, 0] rfl) e
          · have e := ce_if0 e hc110
            refine lv_aload_n hx9 hb d3_hold_113 rfl (lv_at hl 2 rfl) ?_
            refine gf_3_47 C hH hk1 d3_hold_114 ?_
            refine lv_goto (tgt := 121) hx9 hb d3_hold_117 (by decide) ?_
            obtain ⟨o121, eo121, e⟩ := ce_bd e
            refine ce_callV (As := [.ref (ad k1), .int x5, .int x3, .int (h k1 1)]) (rest := []) C (ce_sok aK aV B0) hH (c3_listen l D ad cA aK aV B0 C.2.2.2.2.2.2.1 F k0 k1 x5 x3 (h k1 1) hk0 hk1 h o121 eo121) (lk_El hk0).1 (lk_El hk0).2.choose_spec rfl rfl mc3_listen ml_3_50 mi3_listen ms3_listen mI_3 (n := 4) (by decide) rfl ⟨Nat.le_of_ble_eq_true rfl, Nat.le_of_ble_eq_true rfl⟩ ⟨Nat.le_of_ble_eq_true rfl, Nat.le_of_ble_eq_true rfl⟩ hl.1 rfl (Nat.le_of_ble_eq_true rfl) d3_hold_121 (fun H locs hH => ?_)
            refine W.eq (g2 := F0 m 124 ls []) rfl ?_
            refine lv_iinc (v := x5 + (1 : Int32)) (lv' := [(5, .int (x5 + (1 : Int32))), (6, .int (0 : Int32)), (0, .ref (ad k0)), (1, .ref (ad k1)), (2, .int x2), (3, .int x3), (4, .int x4)]) hx9 hb d3_hold_124 hl (k := 6) rfl rfl (by decide) rfl (fun ls hl => ?_)
            refine lv_goto (tgt := 71) hx9 hb d3_hold_127 (by decide) ?_
            exact ih (x5 + (1 : Int32)) o121 _ _ _ hH (lv_sub hl [2, 3, 4, 5, 6, 0] rfl) e
        · have e := ce_if1 e hc93
          refine lv_iconst (v := (1 : Int32)) hx9 hb d3_hold_96 (by decide) ?_
          refine lv_goto (tgt := 101) hx9 hb d3_hold_97 (by decide) ?_
          refine lv_istore (lv' := [(6, .int (1 : Int32)), (0, .ref (ad k0)), (1, .ref (ad k1)), (2, .int x2), (3, .int x3), (4, .int x4), (5, .int x5)]) hx9 hb d3_hold_101 hl (by decide) rfl (fun ls hl => ?_)
          refine lv_aload_n hx9 hb d3_hold_103 rfl (lv_at hl 1 rfl) ?_
          refine lv_aload_n hx9 hb d3_hold_104 rfl (lv_at hl 2 rfl) ?_
          refine lv_iload hx9 hb d3_hold_105 (lv_at hl 6 rfl) ?_
          refine lv_iload_n hx9 hb d3_hold_107 rfl (lv_at hl 4 rfl) ?_
          refine lv_iload hx9 hb d3_hold_108 (lv_at hl 0 rfl) ?_
          refine lv_if_eq (tgt := 120) hx9 hb d3_hold_110 (by decide) (fun hc110 => ?_) (fun hc110 => ?_)
          · have e := ce_if1 e hc110
            refine lv_iconst (v := (0 : Int32)) hx9 hb d3_hold_120 (by decide) ?_
            obtain ⟨o121, eo121, e⟩ := ce_bd e
            refine ce_callV (As := [.ref (ad k1), .int x5, .int x3, .int (0 : Int32)]) (rest := []) C (ce_sok aK aV B0) hH (c3_listen l D ad cA aK aV B0 C.2.2.2.2.2.2.1 F k0 k1 x5 x3 (0 : Int32) hk0 hk1 h o121 eo121) (lk_El hk0).1 (lk_El hk0).2.choose_spec rfl rfl mc3_listen ml_3_50 mi3_listen ms3_listen mI_3 (n := 4) (by decide) rfl ⟨Nat.le_of_ble_eq_true rfl, Nat.le_of_ble_eq_true rfl⟩ ⟨Nat.le_of_ble_eq_true rfl, Nat.le_of_ble_eq_true rfl⟩ hl.1 rfl (Nat.le_of_ble_eq_true rfl) d3_hold_121 (fun H locs hH => ?_)
            refine W.eq (g2 := F0 m 124 ls []) rfl ?_
            refine lv_iinc (v := x5 + (1 : Int32)) (lv' := [(5, .int (x5 + (1 : Int32))), (6, .int (1 : Int32)), (0, .ref (ad k0)), (1, .ref (ad k1)), (2, .int x2), (3, .int x3), (4, .int x4)]) hx9 hb d3_hold_124 hl (k := 6) rfl rfl (by decide) rfl (fun ls hl => ?_)
            refine lv_goto (tgt := 71) hx9 hb d3_hold_127 (by decide) ?_
            exact ih (x5 + (1 : Int32)) o121 _ _ _ hH (lv_sub hl [2, 3, 4, 5, 6, 0] rfl) e
          · have e := ce_if0 e hc110
            refine lv_aload_n hx9 hb d3_hold_113 rfl (lv_at hl 2 rfl) ?_
            refine gf_3_47 C hH hk1 d3_hold_114 ?_
            refine lv_goto (tgt := 121) hx9 hb d3_hold_117 (by decide) ?_
            obtain ⟨o121, eo121, e⟩ := ce_bd e
            refine ce_callV (As := [.ref (ad k1), .int x5, .int x3, .int (h k1 1)]) (rest := []) C (ce_sok aK aV B0) hH (c3_listen l D ad cA aK aV B0 C.2.2.2.2.2.2.1 F k0 k1 x5 x3 (h k1 1) hk0 hk1 h o121 eo121) (lk_El hk0).1 (lk_El hk0).2.choose_spec rfl rfl mc3_listen ml_3_50 mi3_listen ms3_listen mI_3 (n := 4) (by decide) rfl ⟨Nat.le_of_ble_eq_true rfl, Nat.le_of_ble_eq_true rfl⟩ ⟨Nat.le_of_ble_eq_true rfl, Nat.le_of_ble_eq_true rfl⟩ hl.1 rfl (Nat.le_of_ble_eq_true rfl) d3_hold_121 (fun H locs hH => ?_)
            refine W.eq (g2 := F0 m 124 ls []) rfl ?_
            refine lv_iinc (v := x5 + (1 : Int32)) (lv' := [(5, .int (x5 + (1 : Int32))), (6, .int (1 : Int32)), (0, .ref (ad k0)), (1, .ref (ad k1)), (2, .int x2), (3, .int x3), (4, .int x4)]) hx9 hb d3_hold_124 hl (k := 6) rfl rfl (by decide) rfl (fun ls hl => ?_)
            refine lv_goto (tgt := 71) hx9 hb d3_hold_127 (by decide) ?_
            exact ih (x5 + (1 : Int32)) o121 _ _ _ hH (lv_sub hl [2, 3, 4, 5, 6, 0] rfl) e
def f3_hold_b55 (F : Nat) (k0 : Nat) (k1 : Nat) (x2 : Int32) (x3 : Int32) (x4 : Int32) (h : Hp) : Option ((Int32 × Int32 × Hp) ⊕ (Hp)) :=
  if (64 : Int32) ≤ x4 then
    some (.inr h)
  else
    if (1000000 : Int32) ≤ x3 then
      some (.inr h)
    else
      Option.bind (ce_it (fun (st : Int32 × Hp) => f3_hold_b71 F k0 k1 x2 x3 x4 st.1 st.2) F ((0 : Int32), h)) (fun o71 =>
        Option.bind (f3_nextTick F k0 x3 o71) (fun o132 =>
          some (.inl (o132.1, x4 + (1 : Int32), o132.2))))
set_option maxRecDepth 20000 in
theorem l3_hold_55 (C : ce_Cx p s m args c meth b3_hold 7 none cn_3 D ad cA B0 (ce_St aK aV B0)) (F : Nat) (k0 : Nat) (k1 : Nat) (x2 : Int32) (hk0 : ce_isEl k0) (hk1 : ce_isNet k1) (r : Hp) (g : (Hp) → Option (Hp)) (hx : ∀  (h : Hp) (H : Heap) (locs : List Loc) (ls : Array Slot), ce_H D ad cA B0 [] s h H locs → lv_has ls 7 [(0, .ref (ad k0)), (1, .ref (ad k1))] → g h = some r → W p l e0 { frames := 3, cells := 0, slots := 0, locals := 72 } s m args below meth c H locs 0 0 (MQ below (ce_Q D ad cA B0 (ce_St aK aV B0) none r) args s 0 0 (fun q => B0 ≤ q)) (F0 m 142 ls [])) : ∀ (n : Nat) (x3 : Int32) (x4 : Int32) (h : Hp) (H : Heap) (locs : List Loc) (ls : Array Slot), ce_H D ad cA B0 [] s h H locs → lv_has ls 7 [(0, .ref (ad k0)), (1, .ref (ad k1)), (2, .int x2), (3, .int x3), (4, .int x4)] → Option.bind (ce_it (fun (st : Int32 × Int32 × Hp) => f3_hold_b55 F k0 k1 x2 st.1 st.2.1 st.2.2) n (x3, x4, h)) g = some r → W p l e0 { frames := 3, cells := 0, slots := 0, locals := 72 } s m args below meth c H locs 0 0 (MQ below (ce_Q D ad cA B0 (ce_St aK aV B0) none r) args s 0 0 (fun q => B0 ≤ q)) (F0 m 55 ls []) := by
  intro n
  induction n with
  | zero =>
    intro x3 x4 h H locs ls hH hl e
    exact absurd e (fun z => by cases z)
  | succ n ih =>
    intro x3 x4 h H locs ls hH hl e
    have hx9 := C.1
    have hb := C.2.1
    have e : Option.bind (f3_hold_b55 F k0 k1 x2 x3 x4 h) _ = some r := ce_it_bd e
    unfold f3_hold_b55 at e
    refine lv_iload hx9 hb d3_hold_55 (lv_at hl 4 rfl) ?_
    refine lv_bipush (v := (64 : Int32)) hx9 hb d3_hold_57 (by decide) ?_
    refine lv_icmp_ge (tgt := 142) hx9 hb d3_hold_59 (by decide) (fun hc59 => ?_) (fun hc59 => ?_)
    · have e := ce_if1 e hc59
      exact hx  h _ _ _ hH (lv_sub hl [0, 1] rfl) e
    · have e := ce_if0 e hc59
      refine lv_iload_n hx9 hb d3_hold_62 rfl (lv_at hl 3 rfl) ?_
      refine lv_ldc (v := (1000000 : Int32)) hx9 hb C.2.2.2.1 (C.2.2.2.2.1 _ mk_3_36) d3_hold_63 ?_
      refine lv_icmp_ge (tgt := 142) hx9 hb d3_hold_65 (by decide) (fun hc65 => ?_) (fun hc65 => ?_)
      · have e := ce_if1 e hc65
        exact hx  h _ _ _ hH (lv_sub hl [0, 1] rfl) e
      · have e := ce_if0 e hc65
        refine lv_iconst (v := (0 : Int32)) hx9 hb d3_hold_68 (by decide) ?_
        refine lv_istore (lv' := [(5, .int (0 : Int32)), (0, .ref (ad k0)), (1, .ref (ad k1)), (2, .int x2), (3, .int x3), (4, .int x4)]) hx9 hb d3_hold_69 hl (by decide) rfl (fun ls hl => ?_)
        refine l3_hold_71 C F k0 k1 x2 x3 x4 hk0 hk1 r _ (fun  h_71 H locs ls hH hl e => ?_) F (0 : Int32) h _ _ _ hH (lv_sub hl [1, 2, 3, 4, 5, 0] rfl) (ce_as e)
        try dsimp only at e
        refine lv_aload_n hx9 hb d3_hold_130 rfl (lv_at hl 0 rfl) ?_
        refine lv_iload_n hx9 hb d3_hold_131 rfl (lv_at hl 3 rfl) ?_
        obtain ⟨o132, eo132, e⟩ := ce_bd e
        refine ce_callV (As := [.int x3]) (rest := []) C (ce_sok aK aV B0) hH (c3_nextTick l D ad cA aK aV B0 C.2.2.2.2.2.2.1 F k0 x3 hk0 h_71 o132 eo132) (lk_El hk0).1 (lk_El hk0).2.choose_spec rfl rfl mc3_nextTick ml_3_54 mi3_nextTick ms3_nextTick mI_3 (n := 1) (by decide) rfl ⟨Nat.le_of_ble_eq_true rfl, Nat.le_of_ble_eq_true rfl⟩ ⟨Nat.le_of_ble_eq_true rfl, Nat.le_of_ble_eq_true rfl⟩ hl.1 rfl (Nat.le_of_ble_eq_true rfl) d3_hold_132 (fun H locs hH => ?_)
        refine W.eq (g2 := F0 m 135 ls [.int o132.1]) rfl ?_
        refine lv_istore_n (lv' := [(3, .int o132.1), (0, .ref (ad k0)), (1, .ref (ad k1)), (2, .int x2), (4, .int x4)]) hx9 hb d3_hold_135 rfl hl (by decide) rfl (fun ls hl => ?_)
        refine lv_iinc (v := x4 + (1 : Int32)) (lv' := [(4, .int (x4 + (1 : Int32))), (3, .int o132.1), (0, .ref (ad k0)), (1, .ref (ad k1)), (2, .int x2)]) hx9 hb d3_hold_136 hl (k := 4) rfl rfl (by decide) rfl (fun ls hl => ?_)
        refine lv_goto (tgt := 55) hx9 hb d3_hold_139 (by decide) ?_
        exact ih o132.1 (x4 + (1 : Int32)) o132.2 _ _ _ hH (lv_sub hl [2, 3, 4, 1, 0] rfl) e
def f3_hold_b145 (F : Nat) (k0 : Nat) (k1 : Nat) (x4 : Int32) (h : Hp) : Option ((Int32 × Hp) ⊕ (Hp)) :=
  if (40 : Int32) ≤ x4 then
    some (.inr h)
  else
    Option.bind (f5_isLesserEnd F k1 x4 h) (fun o155 =>
      if o155.1 = 0 then
        some (.inl (x4 + (1 : Int32), o155.2))
      else
        Option.bind (f3_isCalledBothWays F k0 k1 x4 o155.2) (fun o165 =>
          if o165.1 = 0 then
            some (.inl (x4 + (1 : Int32), o165.2))
          else
            Option.bind (f3_contend F k0 k1 x4 o165.2) (fun o175 =>
              some (.inl (x4 + (1 : Int32), o175)))))
set_option maxRecDepth 20000 in
theorem l3_hold_145 (C : ce_Cx p s m args c meth b3_hold 7 none cn_3 D ad cA B0 (ce_St aK aV B0)) (F : Nat) (k0 : Nat) (k1 : Nat) (hk0 : ce_isEl k0) (hk1 : ce_isNet k1) (r : Hp) (g : (Hp) → Option (Hp)) (hx : ∀  (h : Hp) (H : Heap) (locs : List Loc) (ls : Array Slot), ce_H D ad cA B0 [] s h H locs → lv_has ls 7 [] → g h = some r → W p l e0 { frames := 3, cells := 0, slots := 0, locals := 72 } s m args below meth c H locs 0 0 (MQ below (ce_Q D ad cA B0 (ce_St aK aV B0) none r) args s 0 0 (fun q => B0 ≤ q)) (F0 m 184 ls [])) : ∀ (n : Nat) (x4 : Int32) (h : Hp) (H : Heap) (locs : List Loc) (ls : Array Slot), ce_H D ad cA B0 [] s h H locs → lv_has ls 7 [(0, .ref (ad k0)), (1, .ref (ad k1)), (4, .int x4)] → Option.bind (ce_it (fun (st : Int32 × Hp) => f3_hold_b145 F k0 k1 st.1 st.2) n (x4, h)) g = some r → W p l e0 { frames := 3, cells := 0, slots := 0, locals := 72 } s m args below meth c H locs 0 0 (MQ below (ce_Q D ad cA B0 (ce_St aK aV B0) none r) args s 0 0 (fun q => B0 ≤ q)) (F0 m 145 ls []) := by
  intro n
  induction n with
  | zero =>
    intro x4 h H locs ls hH hl e
    exact absurd e (fun z => by cases z)
  | succ n ih =>
    intro x4 h H locs ls hH hl e
    have hx9 := C.1
    have hb := C.2.1
    have e : Option.bind (f3_hold_b145 F k0 k1 x4 h) _ = some r := ce_it_bd e
    unfold f3_hold_b145 at e
    refine lv_iload hx9 hb d3_hold_145 (lv_at hl 2 rfl) ?_
    refine lv_bipush (v := (40 : Int32)) hx9 hb d3_hold_147 (by decide) ?_
    refine lv_icmp_ge (tgt := 184) hx9 hb d3_hold_149 (by decide) (fun hc149 => ?_) (fun hc149 => ?_)
    · have e := ce_if1 e hc149
      exact hx  h _ _ _ hH (lv_sub hl [] rfl) e
    · have e := ce_if0 e hc149
      refine lv_aload_n hx9 hb d3_hold_152 rfl (lv_at hl 1 rfl) ?_
      refine lv_iload hx9 hb d3_hold_153 (lv_at hl 2 rfl) ?_
      obtain ⟨o155, eo155, e⟩ := ce_bd e
      refine ce_callV (As := [.int x4]) (rest := []) C (ce_sok aK aV B0) hH (c5_isLesserEnd l D ad cA aK aV B0 C.2.2.2.2.2.2.1 F k1 x4 hk1 h o155 eo155) (lk_Net hk1).1 (lk_Net hk1).2.choose_spec rfl rfl mc5_isLesserEnd ml_3_58 mi5_isLesserEnd ms5_isLesserEnd mI_5 (n := 1) (by decide) rfl ⟨Nat.le_of_ble_eq_true rfl, Nat.le_of_ble_eq_true rfl⟩ ⟨Nat.le_of_ble_eq_true rfl, Nat.le_of_ble_eq_true rfl⟩ hl.1 rfl (Nat.le_of_ble_eq_true rfl) d3_hold_155 (fun H locs hH => ?_)
      refine W.eq (g2 := F0 m 158 ls [.int o155.1]) rfl ?_
      refine lv_if_eq (tgt := 178) hx9 hb d3_hold_158 (by decide) (fun hc158 => ?_) (fun hc158 => ?_)
      · have e := ce_if1 e hc158
        refine lv_iinc (v := x4 + (1 : Int32)) (lv' := [(4, .int (x4 + (1 : Int32))), (0, .ref (ad k0)), (1, .ref (ad k1))]) hx9 hb d3_hold_178 hl (k := 2) rfl rfl (by decide) rfl (fun ls hl => ?_)
        refine lv_goto (tgt := 145) hx9 hb d3_hold_181 (by decide) ?_
        exact ih (x4 + (1 : Int32)) o155.2 _ _ _ hH (lv_sub hl [1, 2, 0] rfl) e
      · have e := ce_if0 e hc158
        refine lv_aload_n hx9 hb d3_hold_161 rfl (lv_at hl 0 rfl) ?_
        refine lv_aload_n hx9 hb d3_hold_162 rfl (lv_at hl 1 rfl) ?_
        refine lv_iload hx9 hb d3_hold_163 (lv_at hl 2 rfl) ?_
        obtain ⟨o165, eo165, e⟩ := ce_bd e
        refine ce_callV (As := [.ref (ad k1), .int x4]) (rest := []) C (ce_sok aK aV B0) hH (c3_isCalledBothWays l D ad cA aK aV B0 C.2.2.2.2.2.2.1 F k0 k1 x4 hk0 hk1 o155.2 o165 eo165) (lk_El hk0).1 (lk_El hk0).2.choose_spec rfl rfl mc3_isCalledBothWays ml_3_62 mi3_isCalledBothWays ms3_isCalledBothWays mI_3 (n := 2) (by decide) rfl ⟨Nat.le_of_ble_eq_true rfl, Nat.le_of_ble_eq_true rfl⟩ ⟨Nat.le_of_ble_eq_true rfl, Nat.le_of_ble_eq_true rfl⟩ hl.1 rfl (Nat.le_of_ble_eq_true rfl) d3_hold_165 (fun H locs hH => ?_)
        refine W.eq (g2 := F0 m 168 ls [.int o165.1]) rfl ?_
        refine lv_if_eq (tgt := 178) hx9 hb d3_hold_168 (by decide) (fun hc168 => ?_) (fun hc168 => ?_)
        · have e := ce_if1 e hc168
          refine lv_iinc (v := x4 + (1 : Int32)) (lv' := [(4, .int (x4 + (1 : Int32))), (0, .ref (ad k0)), (1, .ref (ad k1))]) hx9 hb d3_hold_178 hl (k := 2) rfl rfl (by decide) rfl (fun ls hl => ?_)
          refine lv_goto (tgt := 145) hx9 hb d3_hold_181 (by decide) ?_
          exact ih (x4 + (1 : Int32)) o165.2 _ _ _ hH (lv_sub hl [1, 2, 0] rfl) e
        · have e := ce_if0 e hc168
          refine lv_aload_n hx9 hb d3_hold_171 rfl (lv_at hl 0 rfl) ?_
          refine lv_aload_n hx9 hb d3_hold_172 rfl (lv_at hl 1 rfl) ?_
          refine lv_iload hx9 hb d3_hold_173 (lv_at hl 2 rfl) ?_
          obtain ⟨o175, eo175, e⟩ := ce_bd e
          refine ce_callV (As := [.ref (ad k1), .int x4]) (rest := []) C (ce_sok aK aV B0) hH (c3_contend l D ad cA aK aV B0 C.2.2.2.2.2.2.1 F k0 k1 x4 hk0 hk1 o165.2 o175 eo175) (lk_El hk0).1 (lk_El hk0).2.choose_spec rfl rfl mc3_contend ml_3_66 mi3_contend ms3_contend mI_3 (n := 2) (by decide) rfl ⟨Nat.le_of_ble_eq_true rfl, Nat.le_of_ble_eq_true rfl⟩ ⟨Nat.le_of_ble_eq_true rfl, Nat.le_of_ble_eq_true rfl⟩ hl.1 rfl (Nat.le_of_ble_eq_true rfl) d3_hold_175 (fun H locs hH => ?_)
          refine W.eq (g2 := F0 m 178 ls []) rfl ?_
          refine lv_iinc (v := x4 + (1 : Int32)) (lv' := [(4, .int (x4 + (1 : Int32))), (0, .ref (ad k0)), (1, .ref (ad k1))]) hx9 hb d3_hold_178 hl (k := 2) rfl rfl (by decide) rfl (fun ls hl => ?_)
          refine lv_goto (tgt := 145) hx9 hb d3_hold_181 (by decide) ?_
          exact ih (x4 + (1 : Int32)) o175 _ _ _ hH (lv_sub hl [1, 2, 0] rfl) e
def f3_hold (F : Nat) (k0 : Nat) (k1 : Nat) (x2 : Int32) (h : Hp) : Option (Hp) :=
  Option.bind (f7_fill_53178 F (k0 + 1) 10 (-1 : Int32) h) (fun o5 =>
    Option.bind (f7_fill_53178 F (k0 + 2) 10 (-1 : Int32) o5) (fun o13 =>
      Option.bind (f7_fill_53178 F (k0 + 3) 10 (0 : Int32) o13) (fun o21 =>
        Option.bind (f7_fill_53178 F (k0 + 4) 10 (-1 : Int32) o21) (fun o29 =>
          Option.bind (f7_fill_53178 F (k0 + 5) 10 (1000000 : Int32) o29) (fun o38 =>
            Option.bind (f7_fill_53178 F (k0 + 6) 40 (1000000 : Int32) o38) (fun o47 =>
              Option.bind (ce_it (fun (st : Int32 × Int32 × Hp) => f3_hold_b55 F k0 k1 x2 st.1 st.2.1 st.2.2) F ((0 : Int32), (0 : Int32), o47)) (fun o55 =>
                Option.bind (ce_it (fun (st : Int32 × Hp) => f3_hold_b145 F k0 k1 st.1 st.2) F ((0 : Int32), o55)) (fun o145 =>
                  some o145))))))))
set_option maxRecDepth 20000 in
theorem c3_hold (l : Launch) (D : va_G) (ad : Nat → Nat) (cA : Nat → ClassId) (aK aV : Nat → Nat) (B0 : Nat) (hA : ce_Ad ad B0) (F : Nat) (k0 : Nat) (k1 : Nat) (x2 : Int32) (hk0 : ce_isEl k0) (hk1 : ce_isNet k1) (h : Hp) (r : Hp) (e : f3_hold F k0 k1 x2 h = some r) : ce_Ct l D ad cA B0 (ce_St aK aV B0) y3_hold b3_hold 7 none 3 72 0 0 [.ref (ad k0), .ref (ad k1), .int x2] h none r := by
  refine ce_enter hA (by decide) rfl (Nat.le_of_ble_eq_true rfl) (fun p e0 s m below meth c ls C hH hl => ?_)
  have hl : lv_has ls 7 [(0, .ref (ad k0)), (1, .ref (ad k1)), (2, .int x2)] := hl
  have hx := C.1
  have hb := C.2.1
  have e : Option.bind _ some = some r := (congrArg (fun z => Option.bind z some) e).trans rfl
  unfold f3_hold at e
  refine lv_aload_n hx hb d3_hold_0 rfl (lv_at hl 0 rfl) ?_
  refine gf_3_9 C hH hk0 d3_hold_1 ?_
  refine lv_iconst (v := (-1 : Int32)) hx hb d3_hold_4 (by decide) ?_
  obtain ⟨o5, eo5, e⟩ := ce_bd e
  refine ce_callS (As := [.ref (ad (k0 + 1)), .int (-1 : Int32)]) (rest := []) C (ce_sok aK aV B0) hH (c7_fill_53178 l D ad cA aK aV B0 C.2.2.2.2.2.2.1 F (k0 + 1) 10 (-1 : Int32) ⟨(la_El_1 hk0).1, (la_El_1 hk0).2⟩ h o5 eo5) mc7_fill_53178 ml_3_30 mt7_fill_53178 mI_A (n := 2) (by decide) rfl ⟨Nat.le_of_ble_eq_true rfl, Nat.le_of_ble_eq_true rfl⟩ ⟨Nat.le_of_ble_eq_true rfl, Nat.le_of_ble_eq_true rfl⟩ hl.1 rfl (Nat.le_of_ble_eq_true rfl) d3_hold_5 (fun H locs hH => ?_)
  refine W.eq (g2 := F0 m 8 ls []) rfl ?_
  refine lv_aload_n hx hb d3_hold_8 rfl (lv_at hl 0 rfl) ?_
  refine gf_3_15 C hH hk0 d3_hold_9 ?_
  refine lv_iconst (v := (-1 : Int32)) hx hb d3_hold_12 (by decide) ?_
  obtain ⟨o13, eo13, e⟩ := ce_bd e
  refine ce_callS (As := [.ref (ad (k0 + 2)), .int (-1 : Int32)]) (rest := []) C (ce_sok aK aV B0) hH (c7_fill_53178 l D ad cA aK aV B0 C.2.2.2.2.2.2.1 F (k0 + 2) 10 (-1 : Int32) ⟨(la_El_2 hk0).1, (la_El_2 hk0).2⟩ o5 o13 eo13) mc7_fill_53178 ml_3_30 mt7_fill_53178 mI_A (n := 2) (by decide) rfl ⟨Nat.le_of_ble_eq_true rfl, Nat.le_of_ble_eq_true rfl⟩ ⟨Nat.le_of_ble_eq_true rfl, Nat.le_of_ble_eq_true rfl⟩ hl.1 rfl (Nat.le_of_ble_eq_true rfl) d3_hold_13 (fun H locs hH => ?_)
  refine W.eq (g2 := F0 m 16 ls []) rfl ?_
  refine lv_aload_n hx hb d3_hold_16 rfl (lv_at hl 0 rfl) ?_
  refine gf_3_18 C hH hk0 d3_hold_17 ?_
  refine lv_iconst (v := (0 : Int32)) hx hb d3_hold_20 (by decide) ?_
  obtain ⟨o21, eo21, e⟩ := ce_bd e
  refine ce_callS (As := [.ref (ad (k0 + 3)), .int (0 : Int32)]) (rest := []) C (ce_sok aK aV B0) hH (c7_fill_53178 l D ad cA aK aV B0 C.2.2.2.2.2.2.1 F (k0 + 3) 10 (0 : Int32) ⟨(la_El_3 hk0).1, (la_El_3 hk0).2⟩ o13 o21 eo21) mc7_fill_53178 ml_3_30 mt7_fill_53178 mI_A (n := 2) (by decide) rfl ⟨Nat.le_of_ble_eq_true rfl, Nat.le_of_ble_eq_true rfl⟩ ⟨Nat.le_of_ble_eq_true rfl, Nat.le_of_ble_eq_true rfl⟩ hl.1 rfl (Nat.le_of_ble_eq_true rfl) d3_hold_21 (fun H locs hH => ?_)
  refine W.eq (g2 := F0 m 24 ls []) rfl ?_
  refine lv_aload_n hx hb d3_hold_24 rfl (lv_at hl 0 rfl) ?_
  refine gf_3_21 C hH hk0 d3_hold_25 ?_
  refine lv_iconst (v := (-1 : Int32)) hx hb d3_hold_28 (by decide) ?_
  obtain ⟨o29, eo29, e⟩ := ce_bd e
  refine ce_callS (As := [.ref (ad (k0 + 4)), .int (-1 : Int32)]) (rest := []) C (ce_sok aK aV B0) hH (c7_fill_53178 l D ad cA aK aV B0 C.2.2.2.2.2.2.1 F (k0 + 4) 10 (-1 : Int32) ⟨(la_El_4 hk0).1, (la_El_4 hk0).2⟩ o21 o29 eo29) mc7_fill_53178 ml_3_30 mt7_fill_53178 mI_A (n := 2) (by decide) rfl ⟨Nat.le_of_ble_eq_true rfl, Nat.le_of_ble_eq_true rfl⟩ ⟨Nat.le_of_ble_eq_true rfl, Nat.le_of_ble_eq_true rfl⟩ hl.1 rfl (Nat.le_of_ble_eq_true rfl) d3_hold_29 (fun H locs hH => ?_)
  refine W.eq (g2 := F0 m 32 ls []) rfl ?_
  refine lv_aload_n hx hb d3_hold_32 rfl (lv_at hl 0 rfl) ?_
  refine gf_3_24 C hH hk0 d3_hold_33 ?_
  refine lv_ldc (v := (1000000 : Int32)) hx hb C.2.2.2.1 (C.2.2.2.2.1 _ mk_3_36) d3_hold_36 ?_
  obtain ⟨o38, eo38, e⟩ := ce_bd e
  refine ce_callS (As := [.ref (ad (k0 + 5)), .int (1000000 : Int32)]) (rest := []) C (ce_sok aK aV B0) hH (c7_fill_53178 l D ad cA aK aV B0 C.2.2.2.2.2.2.1 F (k0 + 5) 10 (1000000 : Int32) ⟨(la_El_5 hk0).1, (la_El_5 hk0).2⟩ o29 o38 eo38) mc7_fill_53178 ml_3_30 mt7_fill_53178 mI_A (n := 2) (by decide) rfl ⟨Nat.le_of_ble_eq_true rfl, Nat.le_of_ble_eq_true rfl⟩ ⟨Nat.le_of_ble_eq_true rfl, Nat.le_of_ble_eq_true rfl⟩ hl.1 rfl (Nat.le_of_ble_eq_true rfl) d3_hold_38 (fun H locs hH => ?_)
  refine W.eq (g2 := F0 m 41 ls []) rfl ?_
  refine lv_aload_n hx hb d3_hold_41 rfl (lv_at hl 0 rfl) ?_
  refine gf_3_27 C hH hk0 d3_hold_42 ?_
  refine lv_ldc (v := (1000000 : Int32)) hx hb C.2.2.2.1 (C.2.2.2.2.1 _ mk_3_36) d3_hold_45 ?_
  obtain ⟨o47, eo47, e⟩ := ce_bd e
  refine ce_callS (As := [.ref (ad (k0 + 6)), .int (1000000 : Int32)]) (rest := []) C (ce_sok aK aV B0) hH (c7_fill_53178 l D ad cA aK aV B0 C.2.2.2.2.2.2.1 F (k0 + 6) 40 (1000000 : Int32) ⟨(la_El_6 hk0).1, (la_El_6 hk0).2⟩ o38 o47 eo47) mc7_fill_53178 ml_3_30 mt7_fill_53178 mI_A (n := 2) (by decide) rfl ⟨Nat.le_of_ble_eq_true rfl, Nat.le_of_ble_eq_true rfl⟩ ⟨Nat.le_of_ble_eq_true rfl, Nat.le_of_ble_eq_true rfl⟩ hl.1 rfl (Nat.le_of_ble_eq_true rfl) d3_hold_47 (fun H locs hH => ?_)
  refine W.eq (g2 := F0 m 50 ls []) rfl ?_
  refine lv_iconst (v := (0 : Int32)) hx hb d3_hold_50 (by decide) ?_
  refine lv_istore_n (lv' := [(3, .int (0 : Int32)), (0, .ref (ad k0)), (1, .ref (ad k1)), (2, .int x2)]) hx hb d3_hold_51 rfl hl (by decide) rfl (fun ls hl => ?_)
  refine lv_iconst (v := (0 : Int32)) hx hb d3_hold_52 (by decide) ?_
  refine lv_istore (lv' := [(4, .int (0 : Int32)), (3, .int (0 : Int32)), (0, .ref (ad k0)), (1, .ref (ad k1)), (2, .int x2)]) hx hb d3_hold_53 hl (by decide) rfl (fun ls hl => ?_)
  refine l3_hold_55 C F k0 k1 x2 hk0 hk1 r _ (fun  h_55 H locs ls hH hl e => ?_) F (0 : Int32) (0 : Int32) o47 _ _ _ hH (lv_sub hl [2, 3, 4, 1, 0] rfl) (ce_as e)
  try dsimp only at e
  refine lv_iconst (v := (0 : Int32)) hx hb d3_hold_142 (by decide) ?_
  refine lv_istore (lv' := [(4, .int (0 : Int32)), (0, .ref (ad k0)), (1, .ref (ad k1))]) hx hb d3_hold_143 hl (by decide) rfl (fun ls hl => ?_)
  refine l3_hold_145 C F k0 k1 hk0 hk1 r _ (fun  h_145 H locs ls hH hl e => ?_) F (0 : Int32) h_55 _ _ _ hH (lv_sub hl [1, 2, 0] rfl) (ce_as e)
  try dsimp only at e
  exact ce_vret C (ce_sok aK aV B0) hH (Option.some.inj e) d3_hold_184
abbrev b3_roleOf : ByteArray := prog_5_method_8_code
def y3_roleOf : MethodName := ⟨cn_3, "roleOf", "(LCableElection$Net;I)I"⟩
theorem d3_roleOf_0 : decode b3_roleOf 0 = .ok (.aload_n 1, 1) := by decide +kernel
theorem d3_roleOf_1 : decode b3_roleOf 1 = .ok (.iload_n 2, 1) := by decide +kernel
theorem d3_roleOf_2 : decode b3_roleOf 2 = .ok (.invokevirtual 77, 3) := by decide +kernel
theorem d3_roleOf_5 : decode b3_roleOf 5 = .ok (.ifCond .ne 5, 3) := by decide +kernel
theorem d3_roleOf_8 : decode b3_roleOf 8 = .ok (.iconst 0, 1) := by decide +kernel
theorem d3_roleOf_9 : decode b3_roleOf 9 = .ok (.ireturn, 1) := by decide +kernel
theorem d3_roleOf_10 : decode b3_roleOf 10 = .ok (.aload_n 0, 1) := by decide +kernel
theorem d3_roleOf_11 : decode b3_roleOf 11 = .ok (.getfield 21, 3) := by decide +kernel
theorem d3_roleOf_14 : decode b3_roleOf 14 = .ok (.iload_n 2, 1) := by decide +kernel
theorem d3_roleOf_15 : decode b3_roleOf 15 = .ok (.invokestatic 89, 3) := by decide +kernel
theorem d3_roleOf_18 : decode b3_roleOf 18 = .ok (.iaload, 1) := by decide +kernel
theorem d3_roleOf_19 : decode b3_roleOf 19 = .ok (.iload_n 2, 1) := by decide +kernel
theorem d3_roleOf_20 : decode b3_roleOf 20 = .ok (.if_icmp .ne 5, 3) := by decide +kernel
theorem d3_roleOf_23 : decode b3_roleOf 23 = .ok (.iconst 1, 1) := by decide +kernel
theorem d3_roleOf_24 : decode b3_roleOf 24 = .ok (.ireturn, 1) := by decide +kernel
theorem d3_roleOf_25 : decode b3_roleOf 25 = .ok (.aload_n 1, 1) := by decide +kernel
theorem d3_roleOf_26 : decode b3_roleOf 26 = .ok (.getfield 92, 3) := by decide +kernel
theorem d3_roleOf_29 : decode b3_roleOf 29 = .ok (.iload_n 2, 1) := by decide +kernel
theorem d3_roleOf_30 : decode b3_roleOf 30 = .ok (.iaload, 1) := by decide +kernel
theorem d3_roleOf_31 : decode b3_roleOf 31 = .ok (.istore_n 3, 1) := by decide +kernel
theorem d3_roleOf_32 : decode b3_roleOf 32 = .ok (.aload_n 0, 1) := by decide +kernel
theorem d3_roleOf_33 : decode b3_roleOf 33 = .ok (.getfield 21, 3) := by decide +kernel
theorem d3_roleOf_36 : decode b3_roleOf 36 = .ok (.iload_n 3, 1) := by decide +kernel
theorem d3_roleOf_37 : decode b3_roleOf 37 = .ok (.invokestatic 89, 3) := by decide +kernel
theorem d3_roleOf_40 : decode b3_roleOf 40 = .ok (.iaload, 1) := by decide +kernel
theorem d3_roleOf_41 : decode b3_roleOf 41 = .ok (.iload_n 3, 1) := by decide +kernel
theorem d3_roleOf_42 : decode b3_roleOf 42 = .ok (.if_icmp .ne 7, 3) := by decide +kernel
theorem d3_roleOf_45 : decode b3_roleOf 45 = .ok (.iconst 2, 1) := by decide +kernel
theorem d3_roleOf_46 : decode b3_roleOf 46 = .ok (.goto 4, 3) := by decide +kernel
theorem d3_roleOf_49 : decode b3_roleOf 49 = .ok (.iconst 3, 1) := by decide +kernel
theorem d3_roleOf_50 : decode b3_roleOf 50 = .ok (.ireturn, 1) := by decide +kernel
def f3_roleOf (F : Nat) (k0 : Nat) (k1 : Nat) (x2 : Int32) (h : Hp) : Option (Int32 × Hp) :=
  Option.bind (f5_isCabled F k1 x2 h) (fun o2 =>
    if o2.1 = 0 then
      some ((0 : Int32), o2.2)
    else
      Option.bind (f11_nodeOf F x2 o2.2) (fun o15 =>
        if ce_in o15.1 10 = true then
          if (o15.2 (k0 + 4) (o15.1).toNatClampNeg) = x2 then
            some ((1 : Int32), o15.2)
          else
            if ce_in x2 40 = true then
              Option.bind (f11_nodeOf F (o15.2 (k1 + 5) (x2).toNatClampNeg) o15.2) (fun o37 =>
                if ce_in o37.1 10 = true then
                  if (o37.2 (k0 + 4) (o37.1).toNatClampNeg) = (o15.2 (k1 + 5) (x2).toNatClampNeg) then
                    some ((2 : Int32), o37.2)
                  else
                    some ((3 : Int32), o37.2)
                else none)
            else none
        else none))
set_option maxRecDepth 20000 in
theorem c3_roleOf (l : Launch) (D : va_G) (ad : Nat → Nat) (cA : Nat → ClassId) (aK aV : Nat → Nat) (B0 : Nat) (hA : ce_Ad ad B0) (F : Nat) (k0 : Nat) (k1 : Nat) (x2 : Int32) (hk0 : ce_isEl k0) (hk1 : ce_isNet k1) (h : Hp) (r : Int32 × Hp) (e : f3_roleOf F k0 k1 x2 h = some r) : ce_Ct l D ad cA B0 (ce_St aK aV B0) y3_roleOf b3_roleOf 4 (some .int) 1 21 0 0 [.ref (ad k0), .ref (ad k1), .int x2] h (some (.int r.1)) r.2 := by
  refine ce_enter hA (by decide) rfl (Nat.le_of_ble_eq_true rfl) (fun p e0 s m below meth c ls C hH hl => ?_)
  have hl : lv_has ls 4 [(0, .ref (ad k0)), (1, .ref (ad k1)), (2, .int x2)] := hl
  have hx := C.1
  have hb := C.2.1
  have e : Option.bind _ some = some r := (congrArg (fun z => Option.bind z some) e).trans rfl
  unfold f3_roleOf at e
  refine lv_aload_n hx hb d3_roleOf_0 rfl (lv_at hl 1 rfl) ?_
  refine lv_iload_n hx hb d3_roleOf_1 rfl (lv_at hl 2 rfl) ?_
  obtain ⟨o2, eo2, e⟩ := ce_bd e
  refine ce_callV (As := [.int x2]) (rest := []) C (ce_sok aK aV B0) hH (c5_isCabled l D ad cA aK aV B0 C.2.2.2.2.2.2.1 F k1 x2 hk1 h o2 eo2) (lk_Net hk1).1 (lk_Net hk1).2.choose_spec rfl rfl mc5_isCabled ml_3_77 mi5_isCabled ms5_isCabled mI_5 (n := 1) (by decide) rfl ⟨Nat.le_of_ble_eq_true rfl, Nat.le_of_ble_eq_true rfl⟩ ⟨Nat.le_of_ble_eq_true rfl, Nat.le_of_ble_eq_true rfl⟩ hl.1 rfl (Nat.le_of_ble_eq_true rfl) d3_roleOf_2 (fun H locs hH => ?_)
  refine W.eq (g2 := F0 m 5 ls [.int o2.1]) rfl ?_
  refine lv_if_ne (tgt := 10) hx hb d3_roleOf_5 (by decide) (fun hc5 => ?_) (fun hc5 => ?_)
  · have e := ce_if0 e hc5
    refine lv_aload_n hx hb d3_roleOf_10 rfl (lv_at hl 0 rfl) ?_
    refine gf_3_21 C hH hk0 d3_roleOf_11 ?_
    refine lv_iload_n hx hb d3_roleOf_14 rfl (lv_at hl 2 rfl) ?_
    obtain ⟨o15, eo15, e⟩ := ce_bd e
    refine ce_callN (As := [.int x2]) (rest := [.ref (ad (k0 + 4))]) C (ce_sok aK aV B0) hH (c11_nodeOf l D ad cA aK aV B0 C.2.2.2.2.2.2.1 F x2  o2.2 o15 eo15) mc11_nodeOf (ce_nwW C.2.2.2.2.2.2.2.2.2.2 16 rfl) mt11_nodeOf mI_11 (n := 1) (by decide) rfl ⟨Nat.le_of_ble_eq_true rfl, Nat.le_of_ble_eq_true rfl⟩ ⟨Nat.le_of_ble_eq_true rfl, Nat.le_of_ble_eq_true rfl⟩ hl.1 rfl (Nat.le_of_ble_eq_true rfl) d3_roleOf_15 (fun H locs hH => ?_)
    refine W.eq (g2 := F0 m 18 ls [.int o15.1, .ref (ad (k0 + 4))]) rfl ?_
    obtain ⟨hi18, e⟩ := ce_gd e
    refine ce_iald C hH (la_El_4 hk0).1 (la_El_4 hk0).2 (ce_in_vp hi18) d3_roleOf_18 ?_
    refine lv_iload_n hx hb d3_roleOf_19 rfl (lv_at hl 2 rfl) ?_
    refine lv_icmp_ne (tgt := 25) hx hb d3_roleOf_20 (by decide) (fun hc20 => ?_) (fun hc20 => ?_)
    · have e := ce_if0 e hc20
      refine lv_aload_n hx hb d3_roleOf_25 rfl (lv_at hl 1 rfl) ?_
      refine gf_3_92 C hH hk1 d3_roleOf_26 ?_
      refine lv_iload_n hx hb d3_roleOf_29 rfl (lv_at hl 2 rfl) ?_
      obtain ⟨hi30, e⟩ := ce_gd e
      refine ce_iald C hH (la_Net_5 hk1).1 (la_Net_5 hk1).2 (ce_in_vp hi30) d3_roleOf_30 ?_
      refine lv_istore_n (lv' := [(3, .int (o15.2 (k1 + 5) (x2).toNatClampNeg)), (0, .ref (ad k0)), (1, .ref (ad k1)), (2, .int x2)]) hx hb d3_roleOf_31 rfl hl (by decide) rfl (fun ls hl => ?_)
      refine lv_aload_n hx hb d3_roleOf_32 rfl (lv_at hl 1 rfl) ?_
      refine gf_3_21 C hH hk0 d3_roleOf_33 ?_
      refine lv_iload_n hx hb d3_roleOf_36 rfl (lv_at hl 0 rfl) ?_
      obtain ⟨o37, eo37, e⟩ := ce_bd e
      refine ce_callN (As := [.int (o15.2 (k1 + 5) (x2).toNatClampNeg)]) (rest := [.ref (ad (k0 + 4))]) C (ce_sok aK aV B0) hH (c11_nodeOf l D ad cA aK aV B0 C.2.2.2.2.2.2.1 F (o15.2 (k1 + 5) (x2).toNatClampNeg)  o15.2 o37 eo37) mc11_nodeOf (ce_nwW C.2.2.2.2.2.2.2.2.2.2 16 rfl) mt11_nodeOf mI_11 (n := 1) (by decide) rfl ⟨Nat.le_of_ble_eq_true rfl, Nat.le_of_ble_eq_true rfl⟩ ⟨Nat.le_of_ble_eq_true rfl, Nat.le_of_ble_eq_true rfl⟩ hl.1 rfl (Nat.le_of_ble_eq_true rfl) d3_roleOf_37 (fun H locs hH => ?_)
      refine W.eq (g2 := F0 m 40 ls [.int o37.1, .ref (ad (k0 + 4))]) rfl ?_
      obtain ⟨hi40, e⟩ := ce_gd e
      refine ce_iald C hH (la_El_4 hk0).1 (la_El_4 hk0).2 (ce_in_vp hi40) d3_roleOf_40 ?_
      refine lv_iload_n hx hb d3_roleOf_41 rfl (lv_at hl 0 rfl) ?_
      refine lv_icmp_ne (tgt := 49) hx hb d3_roleOf_42 (by decide) (fun hc42 => ?_) (fun hc42 => ?_)
      · have e := ce_if0 e hc42
        refine lv_iconst (v := (3 : Int32)) hx hb d3_roleOf_49 (by decide) ?_
        exact ce_iretE C (ce_sok aK aV B0) hH e d3_roleOf_50
      · have e := ce_if1 e hc42
        refine lv_iconst (v := (2 : Int32)) hx hb d3_roleOf_45 (by decide) ?_
        refine lv_goto (tgt := 50) hx hb d3_roleOf_46 (by decide) ?_
        exact ce_iretE C (ce_sok aK aV B0) hH e d3_roleOf_50
    · have e := ce_if1 e hc20
      refine lv_iconst (v := (1 : Int32)) hx hb d3_roleOf_23 (by decide) ?_
      exact ce_iretE C (ce_sok aK aV B0) hH e d3_roleOf_24
  · have e := ce_if1 e hc5
    refine lv_iconst (v := (0 : Int32)) hx hb d3_roleOf_8 (by decide) ?_
    exact ce_iretE C (ce_sok aK aV B0) hH e d3_roleOf_9
abbrev b3_parentOf : ByteArray := prog_5_method_9_code
def y3_parentOf : MethodName := ⟨cn_3, "parentOf", "(LCableElection$Net;I)I"⟩
theorem d3_parentOf_0 : decode b3_parentOf 0 = .ok (.aload_n 0, 1) := by decide +kernel
theorem d3_parentOf_1 : decode b3_parentOf 1 = .ok (.getfield 21, 3) := by decide +kernel
theorem d3_parentOf_4 : decode b3_parentOf 4 = .ok (.iload_n 2, 1) := by decide +kernel
theorem d3_parentOf_5 : decode b3_parentOf 5 = .ok (.iaload, 1) := by decide +kernel
theorem d3_parentOf_6 : decode b3_parentOf 6 = .ok (.istore_n 3, 1) := by decide +kernel
theorem d3_parentOf_7 : decode b3_parentOf 7 = .ok (.aload_n 1, 1) := by decide +kernel
theorem d3_parentOf_8 : decode b3_parentOf 8 = .ok (.iload_n 3, 1) := by decide +kernel
theorem d3_parentOf_9 : decode b3_parentOf 9 = .ok (.invokevirtual 77, 3) := by decide +kernel
theorem d3_parentOf_12 : decode b3_parentOf 12 = .ok (.ifCond .eq 15, 3) := by decide +kernel
theorem d3_parentOf_15 : decode b3_parentOf 15 = .ok (.aload_n 1, 1) := by decide +kernel
theorem d3_parentOf_16 : decode b3_parentOf 16 = .ok (.getfield 92, 3) := by decide +kernel
theorem d3_parentOf_19 : decode b3_parentOf 19 = .ok (.iload_n 3, 1) := by decide +kernel
theorem d3_parentOf_20 : decode b3_parentOf 20 = .ok (.iaload, 1) := by decide +kernel
theorem d3_parentOf_21 : decode b3_parentOf 21 = .ok (.invokestatic 89, 3) := by decide +kernel
theorem d3_parentOf_24 : decode b3_parentOf 24 = .ok (.goto 4, 3) := by decide +kernel
theorem d3_parentOf_27 : decode b3_parentOf 27 = .ok (.iconst (-1), 1) := by decide +kernel
theorem d3_parentOf_28 : decode b3_parentOf 28 = .ok (.ireturn, 1) := by decide +kernel
def f3_parentOf (F : Nat) (k0 : Nat) (k1 : Nat) (x2 : Int32) (h : Hp) : Option (Int32 × Hp) :=
  if ce_in x2 10 = true then
    Option.bind (f5_isCabled F k1 (h (k0 + 4) (x2).toNatClampNeg) h) (fun o9 =>
      if o9.1 = 0 then
        some ((-1 : Int32), o9.2)
      else
        if ce_in (h (k0 + 4) (x2).toNatClampNeg) 40 = true then
          Option.bind (f11_nodeOf F (o9.2 (k1 + 5) ((h (k0 + 4) (x2).toNatClampNeg)).toNatClampNeg) o9.2) (fun o21 =>
            some (o21.1, o21.2))
        else none)
  else none
set_option maxRecDepth 20000 in
theorem c3_parentOf (l : Launch) (D : va_G) (ad : Nat → Nat) (cA : Nat → ClassId) (aK aV : Nat → Nat) (B0 : Nat) (hA : ce_Ad ad B0) (F : Nat) (k0 : Nat) (k1 : Nat) (x2 : Int32) (hk0 : ce_isEl k0) (hk1 : ce_isNet k1) (h : Hp) (r : Int32 × Hp) (e : f3_parentOf F k0 k1 x2 h = some r) : ce_Ct l D ad cA B0 (ce_St aK aV B0) y3_parentOf b3_parentOf 4 (some .int) 1 21 0 0 [.ref (ad k0), .ref (ad k1), .int x2] h (some (.int r.1)) r.2 := by
  refine ce_enter hA (by decide) rfl (Nat.le_of_ble_eq_true rfl) (fun p e0 s m below meth c ls C hH hl => ?_)
  have hl : lv_has ls 4 [(0, .ref (ad k0)), (1, .ref (ad k1)), (2, .int x2)] := hl
  have hx := C.1
  have hb := C.2.1
  have e : Option.bind _ some = some r := (congrArg (fun z => Option.bind z some) e).trans rfl
  unfold f3_parentOf at e
  refine lv_aload_n hx hb d3_parentOf_0 rfl (lv_at hl 0 rfl) ?_
  refine gf_3_21 C hH hk0 d3_parentOf_1 ?_
  refine lv_iload_n hx hb d3_parentOf_4 rfl (lv_at hl 2 rfl) ?_
  obtain ⟨hi5, e⟩ := ce_gd e
  refine ce_iald C hH (la_El_4 hk0).1 (la_El_4 hk0).2 (ce_in_vp hi5) d3_parentOf_5 ?_
  refine lv_istore_n (lv' := [(3, .int (h (k0 + 4) (x2).toNatClampNeg)), (0, .ref (ad k0)), (1, .ref (ad k1)), (2, .int x2)]) hx hb d3_parentOf_6 rfl hl (by decide) rfl (fun ls hl => ?_)
  refine lv_aload_n hx hb d3_parentOf_7 rfl (lv_at hl 2 rfl) ?_
  refine lv_iload_n hx hb d3_parentOf_8 rfl (lv_at hl 0 rfl) ?_
  obtain ⟨o9, eo9, e⟩ := ce_bd e
  refine ce_callV (As := [.int (h (k0 + 4) (x2).toNatClampNeg)]) (rest := []) C (ce_sok aK aV B0) hH (c5_isCabled l D ad cA aK aV B0 C.2.2.2.2.2.2.1 F k1 (h (k0 + 4) (x2).toNatClampNeg) hk1 h o9 eo9) (lk_Net hk1).1 (lk_Net hk1).2.choose_spec rfl rfl mc5_isCabled ml_3_77 mi5_isCabled ms5_isCabled mI_5 (n := 1) (by decide) rfl ⟨Nat.le_of_ble_eq_true rfl, Nat.le_of_ble_eq_true rfl⟩ ⟨Nat.le_of_ble_eq_true rfl, Nat.le_of_ble_eq_true rfl⟩ hl.1 rfl (Nat.le_of_ble_eq_true rfl) d3_parentOf_9 (fun H locs hH => ?_)
  refine W.eq (g2 := F0 m 12 ls [.int o9.1]) rfl ?_
  refine lv_if_eq (tgt := 27) hx hb d3_parentOf_12 (by decide) (fun hc12 => ?_) (fun hc12 => ?_)
  · have e := ce_if1 e hc12
    refine lv_iconst (v := (-1 : Int32)) hx hb d3_parentOf_27 (by decide) ?_
    exact ce_iretE C (ce_sok aK aV B0) hH e d3_parentOf_28
  · have e := ce_if0 e hc12
    refine lv_aload_n hx hb d3_parentOf_15 rfl (lv_at hl 2 rfl) ?_
    refine gf_3_92 C hH hk1 d3_parentOf_16 ?_
    refine lv_iload_n hx hb d3_parentOf_19 rfl (lv_at hl 0 rfl) ?_
    obtain ⟨hi20, e⟩ := ce_gd e
    refine ce_iald C hH (la_Net_5 hk1).1 (la_Net_5 hk1).2 (ce_in_vp hi20) d3_parentOf_20 ?_
    obtain ⟨o21, eo21, e⟩ := ce_bd e
    refine ce_callN (As := [.int (o9.2 (k1 + 5) ((h (k0 + 4) (x2).toNatClampNeg)).toNatClampNeg)]) (rest := []) C (ce_sok aK aV B0) hH (c11_nodeOf l D ad cA aK aV B0 C.2.2.2.2.2.2.1 F (o9.2 (k1 + 5) ((h (k0 + 4) (x2).toNatClampNeg)).toNatClampNeg)  o9.2 o21 eo21) mc11_nodeOf (ce_nwW C.2.2.2.2.2.2.2.2.2.2 16 rfl) mt11_nodeOf mI_11 (n := 1) (by decide) rfl ⟨Nat.le_of_ble_eq_true rfl, Nat.le_of_ble_eq_true rfl⟩ ⟨Nat.le_of_ble_eq_true rfl, Nat.le_of_ble_eq_true rfl⟩ hl.1 rfl (Nat.le_of_ble_eq_true rfl) d3_parentOf_21 (fun H locs hH => ?_)
    refine W.eq (g2 := F0 m 24 ls [.int o21.1]) rfl ?_
    refine lv_goto (tgt := 28) hx hb d3_parentOf_24 (by decide) ?_
    exact ce_iretE C (ce_sok aK aV B0) hH e d3_parentOf_28
abbrev b3_isBelow : ByteArray := prog_5_method_10_code
def y3_isBelow : MethodName := ⟨cn_3, "isBelow", "(LCableElection$Net;II)Z"⟩
theorem d3_isBelow_0 : decode b3_isBelow 0 = .ok (.iload_n 2, 1) := by decide +kernel
theorem d3_isBelow_1 : decode b3_isBelow 1 = .ok (.istore 4, 2) := by decide +kernel
theorem d3_isBelow_3 : decode b3_isBelow 3 = .ok (.iconst 0, 1) := by decide +kernel
theorem d3_isBelow_4 : decode b3_isBelow 4 = .ok (.istore 5, 2) := by decide +kernel
theorem d3_isBelow_6 : decode b3_isBelow 6 = .ok (.iload 5, 2) := by decide +kernel
theorem d3_isBelow_8 : decode b3_isBelow 8 = .ok (.bipush 10, 2) := by decide +kernel
theorem d3_isBelow_10 : decode b3_isBelow 10 = .ok (.if_icmp .ge 30, 3) := by decide +kernel
theorem d3_isBelow_13 : decode b3_isBelow 13 = .ok (.iload 4, 2) := by decide +kernel
theorem d3_isBelow_15 : decode b3_isBelow 15 = .ok (.iconst (-1), 1) := by decide +kernel
theorem d3_isBelow_16 : decode b3_isBelow 16 = .ok (.if_icmp .eq 24, 3) := by decide +kernel
theorem d3_isBelow_19 : decode b3_isBelow 19 = .ok (.iload 4, 2) := by decide +kernel
theorem d3_isBelow_21 : decode b3_isBelow 21 = .ok (.iload_n 3, 1) := by decide +kernel
theorem d3_isBelow_22 : decode b3_isBelow 22 = .ok (.if_icmp .eq 18, 3) := by decide +kernel
theorem d3_isBelow_25 : decode b3_isBelow 25 = .ok (.aload_n 0, 1) := by decide +kernel
theorem d3_isBelow_26 : decode b3_isBelow 26 = .ok (.aload_n 1, 1) := by decide +kernel
theorem d3_isBelow_27 : decode b3_isBelow 27 = .ok (.iload 4, 2) := by decide +kernel
theorem d3_isBelow_29 : decode b3_isBelow 29 = .ok (.invokevirtual 104, 3) := by decide +kernel
theorem d3_isBelow_32 : decode b3_isBelow 32 = .ok (.istore 4, 2) := by decide +kernel
theorem d3_isBelow_34 : decode b3_isBelow 34 = .ok (.iinc 5 1, 3) := by decide +kernel
theorem d3_isBelow_37 : decode b3_isBelow 37 = .ok (.goto (-31), 3) := by decide +kernel
theorem d3_isBelow_40 : decode b3_isBelow 40 = .ok (.iload 4, 2) := by decide +kernel
theorem d3_isBelow_42 : decode b3_isBelow 42 = .ok (.iload_n 3, 1) := by decide +kernel
theorem d3_isBelow_43 : decode b3_isBelow 43 = .ok (.if_icmp .ne 7, 3) := by decide +kernel
theorem d3_isBelow_46 : decode b3_isBelow 46 = .ok (.iconst 1, 1) := by decide +kernel
theorem d3_isBelow_47 : decode b3_isBelow 47 = .ok (.goto 4, 3) := by decide +kernel
theorem d3_isBelow_50 : decode b3_isBelow 50 = .ok (.iconst 0, 1) := by decide +kernel
theorem d3_isBelow_51 : decode b3_isBelow 51 = .ok (.ireturn, 1) := by decide +kernel
theorem mc3_parentOf : Cond.code y3_parentOf b3_parentOf 4 (some .int) ∈ ce_cm := ce_cm_of (List.mem_of_getElem? (i := 791) (by decide +kernel)) (by decide +kernel)
theorem ml_3_104 : Cond.methodLink cn_3 104 y3_parentOf ∈ ce_cm := ce_cm_of (List.mem_of_getElem? (i := 895) (by decide +kernel)) (by decide +kernel)
theorem mi3_parentOf : Cond.instanceMethod y3_parentOf ∈ ce_cm := ce_cm_of (List.mem_of_getElem? (i := 789) (by decide +kernel)) (by decide +kernel)
theorem ms3_parentOf : Cond.selects cn_3 y3_parentOf y3_parentOf ∈ ce_cm := ce_cm_of (List.mem_of_getElem? (i := 790) (by decide +kernel)) (by decide +kernel)
def f3_isBelow_b6 (F : Nat) (k0 : Nat) (k1 : Nat) (x3 : Int32) (x4 : Int32) (x5 : Int32) (h : Hp) : Option ((Int32 × Int32 × Hp) ⊕ (Int32 × Hp)) :=
  if (10 : Int32) ≤ x5 then
    some (.inr (x4, h))
  else
    if x4 = (-1 : Int32) then
      some (.inr (x4, h))
    else
      if x4 = x3 then
        some (.inr (x4, h))
      else
        Option.bind (f3_parentOf F k0 k1 x4 h) (fun o29 =>
          some (.inl (o29.1, x5 + (1 : Int32), o29.2)))
set_option maxRecDepth 20000 in
theorem l3_isBelow_6 (C : ce_Cx p s m args c meth b3_isBelow 6 (some .boolean) cn_3 D ad cA B0 (ce_St aK aV B0)) (F : Nat) (k0 : Nat) (k1 : Nat) (x3 : Int32) (hk0 : ce_isEl k0) (hk1 : ce_isNet k1) (r : Int32 × Hp) (g : (Int32 × Hp) → Option (Int32 × Hp)) (hx : ∀ (x4 : Int32) (h : Hp) (H : Heap) (locs : List Loc) (ls : Array Slot), ce_H D ad cA B0 [] s h H locs → lv_has ls 6 [(3, .int x3), (4, .int x4)] → g (x4, h) = some r → W p l e0 { frames := 2, cells := 0, slots := 0, locals := 44 } s m args below meth c H locs 0 0 (MQ below (ce_Q D ad cA B0 (ce_St aK aV B0) (some (.int r.1)) r.2) args s 0 0 (fun q => B0 ≤ q)) (F0 m 40 ls [])) : ∀ (n : Nat) (x4 : Int32) (x5 : Int32) (h : Hp) (H : Heap) (locs : List Loc) (ls : Array Slot), ce_H D ad cA B0 [] s h H locs → lv_has ls 6 [(0, .ref (ad k0)), (1, .ref (ad k1)), (3, .int x3), (4, .int x4), (5, .int x5)] → Option.bind (ce_it (fun (st : Int32 × Int32 × Hp) => f3_isBelow_b6 F k0 k1 x3 st.1 st.2.1 st.2.2) n (x4, x5, h)) g = some r → W p l e0 { frames := 2, cells := 0, slots := 0, locals := 44 } s m args below meth c H locs 0 0 (MQ below (ce_Q D ad cA B0 (ce_St aK aV B0) (some (.int r.1)) r.2) args s 0 0 (fun q => B0 ≤ q)) (F0 m 6 ls []) := by
  intro n
  induction n with
  | zero =>
    intro x4 x5 h H locs ls hH hl e
    exact absurd e (fun z => by cases z)
  | succ n ih =>
    intro x4 x5 h H locs ls hH hl e
    have hx9 := C.1
    have hb := C.2.1
    have e : Option.bind (f3_isBelow_b6 F k0 k1 x3 x4 x5 h) _ = some r := ce_it_bd e
    unfold f3_isBelow_b6 at e
    refine lv_iload hx9 hb d3_isBelow_6 (lv_at hl 4 rfl) ?_
    refine lv_bipush (v := (10 : Int32)) hx9 hb d3_isBelow_8 (by decide) ?_
    refine lv_icmp_ge (tgt := 40) hx9 hb d3_isBelow_10 (by decide) (fun hc10 => ?_) (fun hc10 => ?_)
    · have e := ce_if1 e hc10
      exact hx x4 h _ _ _ hH (lv_sub hl [2, 3] rfl) e
    · have e := ce_if0 e hc10
      refine lv_iload hx9 hb d3_isBelow_13 (lv_at hl 3 rfl) ?_
      refine lv_iconst (v := (-1 : Int32)) hx9 hb d3_isBelow_15 (by decide) ?_
      refine lv_icmp_eq (tgt := 40) hx9 hb d3_isBelow_16 (by decide) (fun hc16 => ?_) (fun hc16 => ?_)
      · have e := ce_if1 e hc16
        exact hx x4 h _ _ _ hH (lv_sub hl [2, 3] rfl) e
      · have e := ce_if0 e hc16
        refine lv_iload hx9 hb d3_isBelow_19 (lv_at hl 3 rfl) ?_
        refine lv_iload_n hx9 hb d3_isBelow_21 rfl (lv_at hl 2 rfl) ?_
        refine lv_icmp_eq (tgt := 40) hx9 hb d3_isBelow_22 (by decide) (fun hc22 => ?_) (fun hc22 => ?_)
        · have e := ce_if1 e hc22
          exact hx x4 h _ _ _ hH (lv_sub hl [2, 3] rfl) e
        · have e := ce_if0 e hc22
          refine lv_aload_n hx9 hb d3_isBelow_25 rfl (lv_at hl 0 rfl) ?_
          refine lv_aload_n hx9 hb d3_isBelow_26 rfl (lv_at hl 1 rfl) ?_
          refine lv_iload hx9 hb d3_isBelow_27 (lv_at hl 3 rfl) ?_
          obtain ⟨o29, eo29, e⟩ := ce_bd e
          refine ce_callV (As := [.ref (ad k1), .int x4]) (rest := []) C (ce_sok aK aV B0) hH (c3_parentOf l D ad cA aK aV B0 C.2.2.2.2.2.2.1 F k0 k1 x4 hk0 hk1 h o29 eo29) (lk_El hk0).1 (lk_El hk0).2.choose_spec rfl rfl mc3_parentOf ml_3_104 mi3_parentOf ms3_parentOf mI_3 (n := 2) (by decide) rfl ⟨Nat.le_of_ble_eq_true rfl, Nat.le_of_ble_eq_true rfl⟩ ⟨Nat.le_of_ble_eq_true rfl, Nat.le_of_ble_eq_true rfl⟩ hl.1 rfl (Nat.le_of_ble_eq_true rfl) d3_isBelow_29 (fun H locs hH => ?_)
          refine W.eq (g2 := F0 m 32 ls [.int o29.1]) rfl ?_
          refine lv_istore (lv' := [(4, .int o29.1), (0, .ref (ad k0)), (1, .ref (ad k1)), (3, .int x3), (5, .int x5)]) hx9 hb d3_isBelow_32 hl (by decide) rfl (fun ls hl => ?_)
          refine lv_iinc (v := x5 + (1 : Int32)) (lv' := [(5, .int (x5 + (1 : Int32))), (4, .int o29.1), (0, .ref (ad k0)), (1, .ref (ad k1)), (3, .int x3)]) hx9 hb d3_isBelow_34 hl (k := 4) rfl rfl (by decide) rfl (fun ls hl => ?_)
          refine lv_goto (tgt := 6) hx9 hb d3_isBelow_37 (by decide) ?_
          exact ih o29.1 (x5 + (1 : Int32)) o29.2 _ _ _ hH (lv_sub hl [2, 3, 4, 1, 0] rfl) e
def f3_isBelow (F : Nat) (k0 : Nat) (k1 : Nat) (x2 : Int32) (x3 : Int32) (h : Hp) : Option (Int32 × Hp) :=
  Option.bind (ce_it (fun (st : Int32 × Int32 × Hp) => f3_isBelow_b6 F k0 k1 x3 st.1 st.2.1 st.2.2) F (x2, (0 : Int32), h)) (fun o6 =>
    if o6.1 = x3 then
      some ((1 : Int32), o6.2)
    else
      some ((0 : Int32), o6.2))
set_option maxRecDepth 20000 in
theorem c3_isBelow (l : Launch) (D : va_G) (ad : Nat → Nat) (cA : Nat → ClassId) (aK aV : Nat → Nat) (B0 : Nat) (hA : ce_Ad ad B0) (F : Nat) (k0 : Nat) (k1 : Nat) (x2 : Int32) (x3 : Int32) (hk0 : ce_isEl k0) (hk1 : ce_isNet k1) (h : Hp) (r : Int32 × Hp) (e : f3_isBelow F k0 k1 x2 x3 h = some r) : ce_Ct l D ad cA B0 (ce_St aK aV B0) y3_isBelow b3_isBelow 6 (some .boolean) 2 44 0 0 [.ref (ad k0), .ref (ad k1), .int x2, .int x3] h (some (.int r.1)) r.2 := by
  refine ce_enter hA (by decide) rfl (Nat.le_of_ble_eq_true rfl) (fun p e0 s m below meth c ls C hH hl => ?_)
  have hl : lv_has ls 6 [(0, .ref (ad k0)), (1, .ref (ad k1)), (2, .int x2), (3, .int x3)] := hl
  have hx := C.1
  have hb := C.2.1
  have e : Option.bind _ some = some r := (congrArg (fun z => Option.bind z some) e).trans rfl
  unfold f3_isBelow at e
  refine lv_iload_n hx hb d3_isBelow_0 rfl (lv_at hl 2 rfl) ?_
  refine lv_istore (lv' := [(4, .int x2), (0, .ref (ad k0)), (1, .ref (ad k1)), (2, .int x2), (3, .int x3)]) hx hb d3_isBelow_1 hl (by decide) rfl (fun ls hl => ?_)
  refine lv_iconst (v := (0 : Int32)) hx hb d3_isBelow_3 (by decide) ?_
  refine lv_istore (lv' := [(5, .int (0 : Int32)), (4, .int x2), (0, .ref (ad k0)), (1, .ref (ad k1)), (2, .int x2), (3, .int x3)]) hx hb d3_isBelow_4 hl (by decide) rfl (fun ls hl => ?_)
  refine l3_isBelow_6 C F k0 k1 x3 hk0 hk1 r _ (fun y6_4 h_6 H locs ls hH hl e => ?_) F x2 (0 : Int32) h _ _ _ hH (lv_sub hl [2, 3, 5, 1, 0] rfl) (ce_as e)
  try dsimp only at e
  refine lv_iload hx hb d3_isBelow_40 (lv_at hl 1 rfl) ?_
  refine lv_iload_n hx hb d3_isBelow_42 rfl (lv_at hl 0 rfl) ?_
  refine lv_icmp_ne (tgt := 50) hx hb d3_isBelow_43 (by decide) (fun hc43 => ?_) (fun hc43 => ?_)
  · have e := ce_if0 e hc43
    refine lv_iconst (v := (0 : Int32)) hx hb d3_isBelow_50 (by decide) ?_
    exact ce_zretE C (ce_sok aK aV B0) hH (Or.inl rfl) e d3_isBelow_51
  · have e := ce_if1 e hc43
    refine lv_iconst (v := (1 : Int32)) hx hb d3_isBelow_46 (by decide) ?_
    refine lv_goto (tgt := 51) hx hb d3_isBelow_47 (by decide) ?_
    exact ce_zretE C (ce_sok aK aV B0) hH (Or.inr rfl) e d3_isBelow_51
abbrev b3_rootIn : ByteArray := prog_5_method_11_code
def y3_rootIn : MethodName := ⟨cn_3, "rootIn", "(LCableElection$Buses;I)I"⟩
theorem d3_rootIn_0 : decode b3_rootIn 0 = .ok (.iconst 0, 1) := by decide +kernel
theorem d3_rootIn_1 : decode b3_rootIn 1 = .ok (.istore_n 3, 1) := by decide +kernel
theorem d3_rootIn_2 : decode b3_rootIn 2 = .ok (.iload_n 3, 1) := by decide +kernel
theorem d3_rootIn_3 : decode b3_rootIn 3 = .ok (.bipush 10, 2) := by decide +kernel
theorem d3_rootIn_5 : decode b3_rootIn 5 = .ok (.if_icmp .ge 30, 3) := by decide +kernel
theorem d3_rootIn_8 : decode b3_rootIn 8 = .ok (.aload_n 0, 1) := by decide +kernel
theorem d3_rootIn_9 : decode b3_rootIn 9 = .ok (.getfield 15, 3) := by decide +kernel
theorem d3_rootIn_12 : decode b3_rootIn 12 = .ok (.iload_n 3, 1) := by decide +kernel
theorem d3_rootIn_13 : decode b3_rootIn 13 = .ok (.iaload, 1) := by decide +kernel
theorem d3_rootIn_14 : decode b3_rootIn 14 = .ok (.iconst (-1), 1) := by decide +kernel
theorem d3_rootIn_15 : decode b3_rootIn 15 = .ok (.if_icmp .eq 14, 3) := by decide +kernel
theorem d3_rootIn_18 : decode b3_rootIn 18 = .ok (.aload_n 1, 1) := by decide +kernel
theorem d3_rootIn_19 : decode b3_rootIn 19 = .ok (.iload_n 2, 1) := by decide +kernel
theorem d3_rootIn_20 : decode b3_rootIn 20 = .ok (.iload_n 3, 1) := by decide +kernel
theorem d3_rootIn_21 : decode b3_rootIn 21 = .ok (.invokevirtual 108, 3) := by decide +kernel
theorem d3_rootIn_24 : decode b3_rootIn 24 = .ok (.ifCond .eq 5, 3) := by decide +kernel
theorem d3_rootIn_27 : decode b3_rootIn 27 = .ok (.iload_n 3, 1) := by decide +kernel
theorem d3_rootIn_28 : decode b3_rootIn 28 = .ok (.ireturn, 1) := by decide +kernel
theorem d3_rootIn_29 : decode b3_rootIn 29 = .ok (.iinc 3 1, 3) := by decide +kernel
theorem d3_rootIn_32 : decode b3_rootIn 32 = .ok (.goto (-30), 3) := by decide +kernel
theorem d3_rootIn_35 : decode b3_rootIn 35 = .ok (.iconst (-1), 1) := by decide +kernel
theorem d3_rootIn_36 : decode b3_rootIn 36 = .ok (.ireturn, 1) := by decide +kernel
theorem mc2_areOne : Cond.code y2_areOne b2_areOne 3 (some .boolean) ∈ ce_cm := ce_cm_of (List.mem_of_getElem? (i := 840) (by decide +kernel)) (by decide +kernel)
theorem ml_3_108 : Cond.methodLink cn_3 108 y2_areOne ∈ ce_cm := ce_cm_of (List.mem_of_getElem? (i := 837) (by decide +kernel)) (by decide +kernel)
theorem mi2_areOne : Cond.instanceMethod y2_areOne ∈ ce_cm := ce_cm_of (List.mem_of_getElem? (i := 838) (by decide +kernel)) (by decide +kernel)
theorem ms2_areOne : Cond.selects cn_2 y2_areOne y2_areOne ∈ ce_cm := ce_cm_of (List.mem_of_getElem? (i := 839) (by decide +kernel)) (by decide +kernel)
def f3_rootIn_b2 (F : Nat) (k0 : Nat) (x2 : Int32) (x3 : Int32) (h : Hp) : Option ((Int32 × Hp) ⊕ ((Int32 × Hp) ⊕ (Hp))) :=
  if (10 : Int32) ≤ x3 then
    some (.inr (.inr h))
  else
    if ce_in x3 10 = true then
      if (h (k0 + 2) (x3).toNatClampNeg) = (-1 : Int32) then
        some (.inl (x3 + (1 : Int32), h))
      else
        Option.bind (f2_areOne F x2 x3 h) (fun o21 =>
          if o21.1 = 0 then
            some (.inl (x3 + (1 : Int32), o21.2))
          else
            some (.inr (.inl (x3, o21.2))))
    else none
set_option maxRecDepth 20000 in
theorem l3_rootIn_2 (C : ce_Cx p s m args c meth b3_rootIn 4 (some .int) cn_3 D ad cA B0 (ce_St aK aV B0)) (F : Nat) (k0 : Nat) (x2 : Int32) (hk0 : ce_isEl k0) (r : Int32 × Hp) (g : ((Int32 × Hp) ⊕ (Hp)) → Option (Int32 × Hp)) (hx : ∀  (h : Hp) (H : Heap) (locs : List Loc) (ls : Array Slot), ce_H D ad cA B0 [] s h H locs → lv_has ls 4 [] → g (.inr h) = some r → W p l e0 { frames := 1, cells := 0, slots := 0, locals := 22 } s m args below meth c H locs 0 0 (MQ below (ce_Q D ad cA B0 (ce_St aK aV B0) (some (.int r.1)) r.2) args s 0 0 (fun q => B0 ≤ q)) (F0 m 35 ls [])) (he : ∀ z, g (.inl z) = some z) : ∀ (n : Nat) (x3 : Int32) (h : Hp) (H : Heap) (locs : List Loc) (ls : Array Slot), ce_H D ad cA B0 [] s h H locs → lv_has ls 4 [(0, .ref (ad k0)), (1, .ref (ad 44)), (2, .int x2), (3, .int x3)] → Option.bind (ce_it (fun (st : Int32 × Hp) => f3_rootIn_b2 F k0 x2 st.1 st.2) n (x3, h)) g = some r → W p l e0 { frames := 1, cells := 0, slots := 0, locals := 22 } s m args below meth c H locs 0 0 (MQ below (ce_Q D ad cA B0 (ce_St aK aV B0) (some (.int r.1)) r.2) args s 0 0 (fun q => B0 ≤ q)) (F0 m 2 ls []) := by
  intro n
  induction n with
  | zero =>
    intro x3 h H locs ls hH hl e
    exact absurd e (fun z => by cases z)
  | succ n ih =>
    intro x3 h H locs ls hH hl e
    have hx9 := C.1
    have hb := C.2.1
    have e : Option.bind (f3_rootIn_b2 F k0 x2 x3 h) _ = some r := ce_it_bd e
    unfold f3_rootIn_b2 at e
    refine lv_iload_n hx9 hb d3_rootIn_2 rfl (lv_at hl 3 rfl) ?_
    refine lv_bipush (v := (10 : Int32)) hx9 hb d3_rootIn_3 (by decide) ?_
    refine lv_icmp_ge (tgt := 35) hx9 hb d3_rootIn_5 (by decide) (fun hc5 => ?_) (fun hc5 => ?_)
    · have e := ce_if1 e hc5
      exact hx  h _ _ _ hH (lv_sub hl [] rfl) e
    · have e := ce_if0 e hc5
      refine lv_aload_n hx9 hb d3_rootIn_8 rfl (lv_at hl 0 rfl) ?_
      refine gf_3_15 C hH hk0 d3_rootIn_9 ?_
      refine lv_iload_n hx9 hb d3_rootIn_12 rfl (lv_at hl 3 rfl) ?_
      obtain ⟨hi13, e⟩ := ce_gd e
      refine ce_iald C hH (la_El_2 hk0).1 (la_El_2 hk0).2 (ce_in_vp hi13) d3_rootIn_13 ?_
      refine lv_iconst (v := (-1 : Int32)) hx9 hb d3_rootIn_14 (by decide) ?_
      refine lv_icmp_eq (tgt := 29) hx9 hb d3_rootIn_15 (by decide) (fun hc15 => ?_) (fun hc15 => ?_)
      · have e := ce_if1 e hc15
        refine lv_iinc (v := x3 + (1 : Int32)) (lv' := [(3, .int (x3 + (1 : Int32))), (0, .ref (ad k0)), (1, .ref (ad 44)), (2, .int x2)]) hx9 hb d3_rootIn_29 hl (k := 3) rfl rfl (by decide) rfl (fun ls hl => ?_)
        refine lv_goto (tgt := 2) hx9 hb d3_rootIn_32 (by decide) ?_
        exact ih (x3 + (1 : Int32)) h _ _ _ hH (lv_sub hl [1, 2, 3, 0] rfl) e
      · have e := ce_if0 e hc15
        refine lv_aload_n hx9 hb d3_rootIn_18 rfl (lv_at hl 1 rfl) ?_
        refine lv_iload_n hx9 hb d3_rootIn_19 rfl (lv_at hl 2 rfl) ?_
        refine lv_iload_n hx9 hb d3_rootIn_20 rfl (lv_at hl 3 rfl) ?_
        obtain ⟨o21, eo21, e⟩ := ce_bd e
        refine ce_callV (As := [.int x2, .int x3]) (rest := []) C (ce_sok aK aV B0) hH (c2_areOne l D ad cA aK aV B0 C.2.2.2.2.2.2.1 F x2 x3  h o21 eo21) lo_44.1 lo_44.2.choose_spec rfl rfl mc2_areOne ml_3_108 mi2_areOne ms2_areOne mI_2 (n := 2) (by decide) rfl ⟨Nat.le_of_ble_eq_true rfl, Nat.le_of_ble_eq_true rfl⟩ ⟨Nat.le_of_ble_eq_true rfl, Nat.le_of_ble_eq_true rfl⟩ hl.1 rfl (Nat.le_of_ble_eq_true rfl) d3_rootIn_21 (fun H locs hH => ?_)
        refine W.eq (g2 := F0 m 24 ls [.int o21.1]) rfl ?_
        refine lv_if_eq (tgt := 29) hx9 hb d3_rootIn_24 (by decide) (fun hc24 => ?_) (fun hc24 => ?_)
        · have e := ce_if1 e hc24
          refine lv_iinc (v := x3 + (1 : Int32)) (lv' := [(3, .int (x3 + (1 : Int32))), (0, .ref (ad k0)), (1, .ref (ad 44)), (2, .int x2)]) hx9 hb d3_rootIn_29 hl (k := 3) rfl rfl (by decide) rfl (fun ls hl => ?_)
          refine lv_goto (tgt := 2) hx9 hb d3_rootIn_32 (by decide) ?_
          exact ih (x3 + (1 : Int32)) o21.2 _ _ _ hH (lv_sub hl [1, 2, 3, 0] rfl) e
        · have e := ce_if0 e hc24
          refine lv_iload_n hx9 hb d3_rootIn_27 rfl (lv_at hl 3 rfl) ?_
          have e := (he _).symm.trans e
          exact ce_iretE C (ce_sok aK aV B0) hH e d3_rootIn_28
def f3_rootIn (F : Nat) (k0 : Nat) (x2 : Int32) (h : Hp) : Option (Int32 × Hp) :=
  Option.bind (ce_it (fun (st : Int32 × Hp) => f3_rootIn_b2 F k0 x2 st.1 st.2) F ((0 : Int32), h)) (fun o2w => match o2w with
    | .inl z => some z
    | .inr o2 =>
      some ((-1 : Int32), o2))
set_option maxRecDepth 20000 in
theorem c3_rootIn (l : Launch) (D : va_G) (ad : Nat → Nat) (cA : Nat → ClassId) (aK aV : Nat → Nat) (B0 : Nat) (hA : ce_Ad ad B0) (F : Nat) (k0 : Nat) (x2 : Int32) (hk0 : ce_isEl k0) (h : Hp) (r : Int32 × Hp) (e : f3_rootIn F k0 x2 h = some r) : ce_Ct l D ad cA B0 (ce_St aK aV B0) y3_rootIn b3_rootIn 4 (some .int) 1 22 0 0 [.ref (ad k0), .ref (ad 44), .int x2] h (some (.int r.1)) r.2 := by
  refine ce_enter hA (by decide) rfl (Nat.le_of_ble_eq_true rfl) (fun p e0 s m below meth c ls C hH hl => ?_)
  have hl : lv_has ls 4 [(0, .ref (ad k0)), (1, .ref (ad 44)), (2, .int x2)] := hl
  have hx := C.1
  have hb := C.2.1
  have e : Option.bind _ some = some r := (congrArg (fun z => Option.bind z some) e).trans rfl
  unfold f3_rootIn at e
  refine lv_iconst (v := (0 : Int32)) hx hb d3_rootIn_0 (by decide) ?_
  refine lv_istore_n (lv' := [(3, .int (0 : Int32)), (0, .ref (ad k0)), (1, .ref (ad 44)), (2, .int x2)]) hx hb d3_rootIn_1 rfl hl (by decide) rfl (fun ls hl => ?_)
  refine l3_rootIn_2 C F k0 x2 hk0 r _ (fun  h_2 H locs ls hH hl e => ?_) (fun z => rfl) F (0 : Int32) h _ _ _ hH (lv_sub hl [1, 2, 3, 0] rfl) (ce_as e)
  try dsimp only at e
  refine lv_iconst (v := (-1 : Int32)) hx hb d3_rootIn_35 (by decide) ?_
  exact ce_iretE C (ce_sok aK aV B0) hH e d3_rootIn_36
abbrev b3_roundsIn : ByteArray := prog_5_method_12_code
def y3_roundsIn : MethodName := ⟨cn_3, "roundsIn", "(LCableElection$Buses;I)I"⟩
theorem d3_roundsIn_0 : decode b3_roundsIn 0 = .ok (.iconst 0, 1) := by decide +kernel
theorem d3_roundsIn_1 : decode b3_roundsIn 1 = .ok (.istore_n 3, 1) := by decide +kernel
theorem d3_roundsIn_2 : decode b3_roundsIn 2 = .ok (.iconst 0, 1) := by decide +kernel
theorem d3_roundsIn_3 : decode b3_roundsIn 3 = .ok (.istore 4, 2) := by decide +kernel
theorem d3_roundsIn_5 : decode b3_roundsIn 5 = .ok (.iload 4, 2) := by decide +kernel
theorem d3_roundsIn_7 : decode b3_roundsIn 7 = .ok (.bipush 10, 2) := by decide +kernel
theorem d3_roundsIn_9 : decode b3_roundsIn 9 = .ok (.if_icmp .ge 31, 3) := by decide +kernel
theorem d3_roundsIn_12 : decode b3_roundsIn 12 = .ok (.aload_n 1, 1) := by decide +kernel
theorem d3_roundsIn_13 : decode b3_roundsIn 13 = .ok (.iload_n 2, 1) := by decide +kernel
theorem d3_roundsIn_14 : decode b3_roundsIn 14 = .ok (.iload 4, 2) := by decide +kernel
theorem d3_roundsIn_16 : decode b3_roundsIn 16 = .ok (.invokevirtual 108, 3) := by decide +kernel
theorem d3_roundsIn_19 : decode b3_roundsIn 19 = .ok (.ifCond .eq 15, 3) := by decide +kernel
theorem d3_roundsIn_22 : decode b3_roundsIn 22 = .ok (.iload_n 3, 1) := by decide +kernel
theorem d3_roundsIn_23 : decode b3_roundsIn 23 = .ok (.aload_n 0, 1) := by decide +kernel
theorem d3_roundsIn_24 : decode b3_roundsIn 24 = .ok (.getfield 18, 3) := by decide +kernel
theorem d3_roundsIn_27 : decode b3_roundsIn 27 = .ok (.iload 4, 2) := by decide +kernel
theorem d3_roundsIn_29 : decode b3_roundsIn 29 = .ok (.iaload, 1) := by decide +kernel
theorem d3_roundsIn_30 : decode b3_roundsIn 30 = .ok (.invokestatic 98, 3) := by decide +kernel
theorem d3_roundsIn_33 : decode b3_roundsIn 33 = .ok (.istore_n 3, 1) := by decide +kernel
theorem d3_roundsIn_34 : decode b3_roundsIn 34 = .ok (.iinc 4 1, 3) := by decide +kernel
theorem d3_roundsIn_37 : decode b3_roundsIn 37 = .ok (.goto (-32), 3) := by decide +kernel
theorem d3_roundsIn_40 : decode b3_roundsIn 40 = .ok (.iload_n 3, 1) := by decide +kernel
theorem d3_roundsIn_41 : decode b3_roundsIn 41 = .ok (.ireturn, 1) := by decide +kernel
def f3_roundsIn_b5 (F : Nat) (k0 : Nat) (x2 : Int32) (x3 : Int32) (x4 : Int32) (h : Hp) : Option ((Int32 × Int32 × Hp) ⊕ (Int32 × Hp)) :=
  if (10 : Int32) ≤ x4 then
    some (.inr (x3, h))
  else
    Option.bind (f2_areOne F x2 x4 h) (fun o16 =>
      if o16.1 = 0 then
        some (.inl (x3, x4 + (1 : Int32), o16.2))
      else
        if ce_in x4 10 = true then
          some (.inl ((if x3 < (o16.2 (k0 + 3) (x4).toNatClampNeg) then (o16.2 (k0 + 3) (x4).toNatClampNeg) else x3), x4 + (1 : Int32), o16.2))
        else none)
set_option maxRecDepth 20000 in
theorem l3_roundsIn_5 (C : ce_Cx p s m args c meth b3_roundsIn 5 (some .int) cn_3 D ad cA B0 (ce_St aK aV B0)) (F : Nat) (k0 : Nat) (x2 : Int32) (hk0 : ce_isEl k0) (r : Int32 × Hp) (g : (Int32 × Hp) → Option (Int32 × Hp)) (hx : ∀ (x3 : Int32) (h : Hp) (H : Heap) (locs : List Loc) (ls : Array Slot), ce_H D ad cA B0 [] s h H locs → lv_has ls 5 [(3, .int x3)] → g (x3, h) = some r → W p l e0 { frames := 1, cells := 0, slots := 0, locals := 24 } s m args below meth c H locs 0 0 (MQ below (ce_Q D ad cA B0 (ce_St aK aV B0) (some (.int r.1)) r.2) args s 0 0 (fun q => B0 ≤ q)) (F0 m 40 ls [])) : ∀ (n : Nat) (x3 : Int32) (x4 : Int32) (h : Hp) (H : Heap) (locs : List Loc) (ls : Array Slot), ce_H D ad cA B0 [] s h H locs → lv_has ls 5 [(0, .ref (ad k0)), (1, .ref (ad 44)), (2, .int x2), (3, .int x3), (4, .int x4)] → Option.bind (ce_it (fun (st : Int32 × Int32 × Hp) => f3_roundsIn_b5 F k0 x2 st.1 st.2.1 st.2.2) n (x3, x4, h)) g = some r → W p l e0 { frames := 1, cells := 0, slots := 0, locals := 24 } s m args below meth c H locs 0 0 (MQ below (ce_Q D ad cA B0 (ce_St aK aV B0) (some (.int r.1)) r.2) args s 0 0 (fun q => B0 ≤ q)) (F0 m 5 ls []) := by
  intro n
  induction n with
  | zero =>
    intro x3 x4 h H locs ls hH hl e
    exact absurd e (fun z => by cases z)
  | succ n ih =>
    intro x3 x4 h H locs ls hH hl e
    have hx9 := C.1
    have hb := C.2.1
    have e : Option.bind (f3_roundsIn_b5 F k0 x2 x3 x4 h) _ = some r := ce_it_bd e
    unfold f3_roundsIn_b5 at e
    refine lv_iload hx9 hb d3_roundsIn_5 (lv_at hl 4 rfl) ?_
    refine lv_bipush (v := (10 : Int32)) hx9 hb d3_roundsIn_7 (by decide) ?_
    refine lv_icmp_ge (tgt := 40) hx9 hb d3_roundsIn_9 (by decide) (fun hc9 => ?_) (fun hc9 => ?_)
    · have e := ce_if1 e hc9
      exact hx x3 h _ _ _ hH (lv_sub hl [3] rfl) e
    · have e := ce_if0 e hc9
      refine lv_aload_n hx9 hb d3_roundsIn_12 rfl (lv_at hl 1 rfl) ?_
      refine lv_iload_n hx9 hb d3_roundsIn_13 rfl (lv_at hl 2 rfl) ?_
      refine lv_iload hx9 hb d3_roundsIn_14 (lv_at hl 4 rfl) ?_
      obtain ⟨o16, eo16, e⟩ := ce_bd e
      refine ce_callV (As := [.int x2, .int x4]) (rest := []) C (ce_sok aK aV B0) hH (c2_areOne l D ad cA aK aV B0 C.2.2.2.2.2.2.1 F x2 x4  h o16 eo16) lo_44.1 lo_44.2.choose_spec rfl rfl mc2_areOne ml_3_108 mi2_areOne ms2_areOne mI_2 (n := 2) (by decide) rfl ⟨Nat.le_of_ble_eq_true rfl, Nat.le_of_ble_eq_true rfl⟩ ⟨Nat.le_of_ble_eq_true rfl, Nat.le_of_ble_eq_true rfl⟩ hl.1 rfl (Nat.le_of_ble_eq_true rfl) d3_roundsIn_16 (fun H locs hH => ?_)
      refine W.eq (g2 := F0 m 19 ls [.int o16.1]) rfl ?_
      refine lv_if_eq (tgt := 34) hx9 hb d3_roundsIn_19 (by decide) (fun hc19 => ?_) (fun hc19 => ?_)
      · have e := ce_if1 e hc19
        refine lv_iinc (v := x4 + (1 : Int32)) (lv' := [(4, .int (x4 + (1 : Int32))), (0, .ref (ad k0)), (1, .ref (ad 44)), (2, .int x2), (3, .int x3)]) hx9 hb d3_roundsIn_34 hl (k := 4) rfl rfl (by decide) rfl (fun ls hl => ?_)
        refine lv_goto (tgt := 5) hx9 hb d3_roundsIn_37 (by decide) ?_
        exact ih x3 (x4 + (1 : Int32)) o16.2 _ _ _ hH (lv_sub hl [1, 2, 3, 4, 0] rfl) e
      · have e := ce_if0 e hc19
        refine lv_iload_n hx9 hb d3_roundsIn_22 rfl (lv_at hl 3 rfl) ?_
        refine lv_aload_n hx9 hb d3_roundsIn_23 rfl (lv_at hl 0 rfl) ?_
        refine gf_3_18 C hH hk0 d3_roundsIn_24 ?_
        refine lv_iload hx9 hb d3_roundsIn_27 (lv_at hl 4 rfl) ?_
        obtain ⟨hi29, e⟩ := ce_gd e
        refine ce_iald C hH (la_El_3 hk0).1 (la_El_3 hk0).2 (ce_in_vp hi29) d3_roundsIn_29 ?_
        refine va_mmax hx9 hb (C.2.2.1.trans hl.1.symm) C.2.2.2.1 (C.2.2.2.2.1 _ ml_3_98) (C.2.2.2.2.1 _ mt_Mmax) (C.2.2.2.2.1 _ mI_M) (C.2.2.2.2.1 _ mc_Mmax) (Nat.le_of_ble_eq_true rfl) (Nat.le_of_ble_eq_true rfl) (Nat.le_of_ble_eq_true rfl) (Nat.le_of_ble_eq_true rfl) d3_roundsIn_30 ?_
        refine lv_istore_n (lv' := [(3, .int (if x3 < (o16.2 (k0 + 3) (x4).toNatClampNeg) then (o16.2 (k0 + 3) (x4).toNatClampNeg) else x3)), (0, .ref (ad k0)), (1, .ref (ad 44)), (2, .int x2), (4, .int x4)]) hx9 hb d3_roundsIn_33 rfl hl (by decide) rfl (fun ls hl => ?_)
        refine lv_iinc (v := x4 + (1 : Int32)) (lv' := [(4, .int (x4 + (1 : Int32))), (3, .int (if x3 < (o16.2 (k0 + 3) (x4).toNatClampNeg) then (o16.2 (k0 + 3) (x4).toNatClampNeg) else x3)), (0, .ref (ad k0)), (1, .ref (ad 44)), (2, .int x2)]) hx9 hb d3_roundsIn_34 hl (k := 4) rfl rfl (by decide) rfl (fun ls hl => ?_)
        refine lv_goto (tgt := 5) hx9 hb d3_roundsIn_37 (by decide) ?_
        exact ih (if x3 < (o16.2 (k0 + 3) (x4).toNatClampNeg) then (o16.2 (k0 + 3) (x4).toNatClampNeg) else x3) (x4 + (1 : Int32)) o16.2 _ _ _ hH (lv_sub hl [2, 3, 4, 1, 0] rfl) e
def f3_roundsIn (F : Nat) (k0 : Nat) (x2 : Int32) (h : Hp) : Option (Int32 × Hp) :=
  Option.bind (ce_it (fun (st : Int32 × Int32 × Hp) => f3_roundsIn_b5 F k0 x2 st.1 st.2.1 st.2.2) F ((0 : Int32), (0 : Int32), h)) (fun o5 =>
    some (o5.1, o5.2))
set_option maxRecDepth 20000 in
theorem c3_roundsIn (l : Launch) (D : va_G) (ad : Nat → Nat) (cA : Nat → ClassId) (aK aV : Nat → Nat) (B0 : Nat) (hA : ce_Ad ad B0) (F : Nat) (k0 : Nat) (x2 : Int32) (hk0 : ce_isEl k0) (h : Hp) (r : Int32 × Hp) (e : f3_roundsIn F k0 x2 h = some r) : ce_Ct l D ad cA B0 (ce_St aK aV B0) y3_roundsIn b3_roundsIn 5 (some .int) 1 24 0 0 [.ref (ad k0), .ref (ad 44), .int x2] h (some (.int r.1)) r.2 := by
  refine ce_enter hA (by decide) rfl (Nat.le_of_ble_eq_true rfl) (fun p e0 s m below meth c ls C hH hl => ?_)
  have hl : lv_has ls 5 [(0, .ref (ad k0)), (1, .ref (ad 44)), (2, .int x2)] := hl
  have hx := C.1
  have hb := C.2.1
  have e : Option.bind _ some = some r := (congrArg (fun z => Option.bind z some) e).trans rfl
  unfold f3_roundsIn at e
  refine lv_iconst (v := (0 : Int32)) hx hb d3_roundsIn_0 (by decide) ?_
  refine lv_istore_n (lv' := [(3, .int (0 : Int32)), (0, .ref (ad k0)), (1, .ref (ad 44)), (2, .int x2)]) hx hb d3_roundsIn_1 rfl hl (by decide) rfl (fun ls hl => ?_)
  refine lv_iconst (v := (0 : Int32)) hx hb d3_roundsIn_2 (by decide) ?_
  refine lv_istore (lv' := [(4, .int (0 : Int32)), (3, .int (0 : Int32)), (0, .ref (ad k0)), (1, .ref (ad 44)), (2, .int x2)]) hx hb d3_roundsIn_3 hl (by decide) rfl (fun ls hl => ?_)
  refine l3_roundsIn_5 C F k0 x2 hk0 r _ (fun y5_3 h_5 H locs ls hH hl e => ?_) F (0 : Int32) (0 : Int32) h _ _ _ hH (lv_sub hl [2, 3, 4, 1, 0] rfl) (ce_as e)
  try dsimp only at e
  refine lv_iload_n hx hb d3_roundsIn_40 rfl (lv_at hl 0 rfl) ?_
  exact ce_iretE C (ce_sok aK aV B0) hH e d3_roundsIn_41
abbrev b4_firstUnnamedChild : ByteArray := prog_6_method_4_code
def y4_firstUnnamedChild : MethodName := ⟨cn_4, "firstUnnamedChild", "(LCableElection$Net;LCableElection$Election;I)I"⟩
theorem d4_firstUnnamedChild_0 : decode b4_firstUnnamedChild 0 = .ok (.iconst 0, 1) := by decide +kernel
theorem d4_firstUnnamedChild_1 : decode b4_firstUnnamedChild 1 = .ok (.istore 4, 2) := by decide +kernel
theorem d4_firstUnnamedChild_3 : decode b4_firstUnnamedChild 3 = .ok (.iload 4, 2) := by decide +kernel
theorem d4_firstUnnamedChild_5 : decode b4_firstUnnamedChild 5 = .ok (.aload_n 1, 1) := by decide +kernel
theorem d4_firstUnnamedChild_6 : decode b4_firstUnnamedChild 6 = .ok (.getfield 53, 3) := by decide +kernel
theorem d4_firstUnnamedChild_9 : decode b4_firstUnnamedChild 9 = .ok (.iload_n 3, 1) := by decide +kernel
theorem d4_firstUnnamedChild_10 : decode b4_firstUnnamedChild 10 = .ok (.iaload, 1) := by decide +kernel
theorem d4_firstUnnamedChild_11 : decode b4_firstUnnamedChild 11 = .ok (.if_icmp .ge 58, 3) := by decide +kernel
theorem d4_firstUnnamedChild_14 : decode b4_firstUnnamedChild 14 = .ok (.iload_n 3, 1) := by decide +kernel
theorem d4_firstUnnamedChild_15 : decode b4_firstUnnamedChild 15 = .ok (.iload 4, 2) := by decide +kernel
theorem d4_firstUnnamedChild_17 : decode b4_firstUnnamedChild 17 = .ok (.invokestatic 56, 3) := by decide +kernel
theorem d4_firstUnnamedChild_20 : decode b4_firstUnnamedChild 20 = .ok (.istore 5, 2) := by decide +kernel
theorem d4_firstUnnamedChild_22 : decode b4_firstUnnamedChild 22 = .ok (.aload_n 2, 1) := by decide +kernel
theorem d4_firstUnnamedChild_23 : decode b4_firstUnnamedChild 23 = .ok (.aload_n 1, 1) := by decide +kernel
theorem d4_firstUnnamedChild_24 : decode b4_firstUnnamedChild 24 = .ok (.iload 5, 2) := by decide +kernel
theorem d4_firstUnnamedChild_26 : decode b4_firstUnnamedChild 26 = .ok (.invokevirtual 60, 3) := by decide +kernel
theorem d4_firstUnnamedChild_29 : decode b4_firstUnnamedChild 29 = .ok (.iconst 2, 1) := by decide +kernel
theorem d4_firstUnnamedChild_30 : decode b4_firstUnnamedChild 30 = .ok (.if_icmp .ne 33, 3) := by decide +kernel
theorem d4_firstUnnamedChild_33 : decode b4_firstUnnamedChild 33 = .ok (.aload_n 0, 1) := by decide +kernel
theorem d4_firstUnnamedChild_34 : decode b4_firstUnnamedChild 34 = .ok (.getfield 9, 3) := by decide +kernel
theorem d4_firstUnnamedChild_37 : decode b4_firstUnnamedChild 37 = .ok (.aload_n 1, 1) := by decide +kernel
theorem d4_firstUnnamedChild_38 : decode b4_firstUnnamedChild 38 = .ok (.getfield 63, 3) := by decide +kernel
theorem d4_firstUnnamedChild_41 : decode b4_firstUnnamedChild 41 = .ok (.iload 5, 2) := by decide +kernel
theorem d4_firstUnnamedChild_43 : decode b4_firstUnnamedChild 43 = .ok (.iaload, 1) := by decide +kernel
theorem d4_firstUnnamedChild_44 : decode b4_firstUnnamedChild 44 = .ok (.invokestatic 66, 3) := by decide +kernel
theorem d4_firstUnnamedChild_47 : decode b4_firstUnnamedChild 47 = .ok (.iaload, 1) := by decide +kernel
theorem d4_firstUnnamedChild_48 : decode b4_firstUnnamedChild 48 = .ok (.iconst (-1), 1) := by decide +kernel
theorem d4_firstUnnamedChild_49 : decode b4_firstUnnamedChild 49 = .ok (.if_icmp .ne 14, 3) := by decide +kernel
theorem d4_firstUnnamedChild_52 : decode b4_firstUnnamedChild 52 = .ok (.aload_n 1, 1) := by decide +kernel
theorem d4_firstUnnamedChild_53 : decode b4_firstUnnamedChild 53 = .ok (.getfield 63, 3) := by decide +kernel
theorem d4_firstUnnamedChild_56 : decode b4_firstUnnamedChild 56 = .ok (.iload 5, 2) := by decide +kernel
theorem d4_firstUnnamedChild_58 : decode b4_firstUnnamedChild 58 = .ok (.iaload, 1) := by decide +kernel
theorem d4_firstUnnamedChild_59 : decode b4_firstUnnamedChild 59 = .ok (.invokestatic 66, 3) := by decide +kernel
theorem d4_firstUnnamedChild_62 : decode b4_firstUnnamedChild 62 = .ok (.ireturn, 1) := by decide +kernel
theorem d4_firstUnnamedChild_63 : decode b4_firstUnnamedChild 63 = .ok (.iinc 4 1, 3) := by decide +kernel
theorem d4_firstUnnamedChild_66 : decode b4_firstUnnamedChild 66 = .ok (.goto (-63), 3) := by decide +kernel
theorem d4_firstUnnamedChild_69 : decode b4_firstUnnamedChild 69 = .ok (.iconst (-1), 1) := by decide +kernel
theorem d4_firstUnnamedChild_70 : decode b4_firstUnnamedChild 70 = .ok (.ireturn, 1) := by decide +kernel
theorem fl_4_53 : Cond.fieldLink cn_4 53 (ft_5 5).1 (ft_5 5).2.1 (ft_5 5).2.2.1 ∈ ce_cm := ce_cm_of (List.mem_of_getElem? (i := 217) (by decide +kernel)) (by decide +kernel)
theorem gf_4_53 (C : ce_Cx p s m args c meth cc nL ret cn_4 D ad cA B0 (ce_St aK aV B0)) (hH : ce_H D ad cA B0 X s h H locs) {k : Nat} (hk : ce_isNet k) (hdg : decode cc pc = .ok (.getfield 53, 3)) (kk : W p l e0 R s m args below meth c H locs cells slots Q (F0 m (pc + 3) ls (.ref (ad (k + 1)) :: rest))) : W p l e0 R s m args below meth c H locs cells slots Q (F0 m pc ls (.ref (ad k) :: rest)) := by
  rcases hk with rfl | rfl
  · exact ce_get C hH (k := 7) (ci := 5) (j := 5) (N := 11) (sj := some (some 8)) (by decide) rfl rfl fw_5 (by decide) fl_4_53 rfl hdg kk
  · exact ce_get C hH (k := 14) (ci := 5) (j := 5) (N := 11) (sj := some (some 15)) (by decide) rfl rfl fw_5 (by decide) fl_4_53 rfl hdg kk
theorem fl_4_9 : Cond.fieldLink cn_4 9 (ft_4 0).1 (ft_4 0).2.1 (ft_4 0).2.2.1 ∈ ce_cm := ce_cm_of (List.mem_of_getElem? (i := 408) (by decide +kernel)) (by decide +kernel)
theorem gf_4_9 (C : ce_Cx p s m args c meth cc nL ret cn_4 D ad cA B0 (ce_St aK aV B0)) (hH : ce_H D ad cA B0 X s h H locs) (hdg : decode cc pc = .ok (.getfield 9, 3)) (kk : W p l e0 R s m args below meth c H locs cells slots Q (F0 m (pc + 3) ls (.ref (ad 63) :: rest))) : W p l e0 R s m args below meth c H locs cells slots Q (F0 m pc ls (.ref (ad 62) :: rest)) := by
  exact ce_get C hH (k := 62) (ci := 4) (j := 0) (N := 2) (sj := some (some 63)) (by decide) rfl rfl fw_4 (by decide) fl_4_9 rfl hdg kk
theorem fl_4_63 : Cond.fieldLink cn_4 63 (ft_5 9).1 (ft_5 9).2.1 (ft_5 9).2.2.1 ∈ ce_cm := ce_cm_of (List.mem_of_getElem? (i := 232) (by decide +kernel)) (by decide +kernel)
theorem gf_4_63 (C : ce_Cx p s m args c meth cc nL ret cn_4 D ad cA B0 (ce_St aK aV B0)) (hH : ce_H D ad cA B0 X s h H locs) {k : Nat} (hk : ce_isNet k) (hdg : decode cc pc = .ok (.getfield 63, 3)) (kk : W p l e0 R s m args below meth c H locs cells slots Q (F0 m (pc + 3) ls (.ref (ad (k + 5)) :: rest))) : W p l e0 R s m args below meth c H locs cells slots Q (F0 m pc ls (.ref (ad k) :: rest)) := by
  rcases hk with rfl | rfl
  · exact ce_get C hH (k := 7) (ci := 5) (j := 9) (N := 11) (sj := some (some 12)) (by decide) rfl rfl fw_5 (by decide) fl_4_63 rfl hdg kk
  · exact ce_get C hH (k := 14) (ci := 5) (j := 9) (N := 11) (sj := some (some 19)) (by decide) rfl rfl fw_5 (by decide) fl_4_63 rfl hdg kk
theorem lc_63 : 63 < 96 ∧ ce_lay 63 = .inl (0, 10) := ⟨by decide, rfl⟩
theorem mc3_roleOf : Cond.code y3_roleOf b3_roleOf 4 (some .int) ∈ ce_cm := ce_cm_of (List.mem_of_getElem? (i := 786) (by decide +kernel)) (by decide +kernel)
theorem ml_4_60 : Cond.methodLink cn_4 60 y3_roleOf ∈ ce_cm := ce_cm_of (List.mem_of_getElem? (i := 783) (by decide +kernel)) (by decide +kernel)
theorem mi3_roleOf : Cond.instanceMethod y3_roleOf ∈ ce_cm := ce_cm_of (List.mem_of_getElem? (i := 784) (by decide +kernel)) (by decide +kernel)
theorem ms3_roleOf : Cond.selects cn_3 y3_roleOf y3_roleOf ∈ ce_cm := ce_cm_of (List.mem_of_getElem? (i := 785) (by decide +kernel)) (by decide +kernel)
def f4_firstUnnamedChild_b3 (F : Nat) (k1 : Nat) (k2 : Nat) (x3 : Int32) (x4 : Int32) (h : Hp) : Option ((Int32 × Hp) ⊕ ((Int32 × Hp) ⊕ (Hp))) :=
  if ce_in x3 10 = true then
    if (h (k1 + 1) (x3).toNatClampNeg) ≤ x4 then
      some (.inr (.inr h))
    else
      Option.bind (f11_endOf F x3 x4 h) (fun o17 =>
        Option.bind (f3_roleOf F k2 k1 o17.1 o17.2) (fun o26 =>
          if o26.1 = (2 : Int32) then
            if ce_in o17.1 40 = true then
              Option.bind (f11_nodeOf F (o26.2 (k1 + 5) (o17.1).toNatClampNeg) o26.2) (fun o44 =>
                if ce_in o44.1 10 = true then
                  if (o44.2 63 (o44.1).toNatClampNeg) = (-1 : Int32) then
                    if ce_in o17.1 40 = true then
                      Option.bind (f11_nodeOf F (o44.2 (k1 + 5) (o17.1).toNatClampNeg) o44.2) (fun o59 =>
                        some (.inr (.inl (o59.1, o59.2))))
                    else none
                  else
                    some (.inl (x4 + (1 : Int32), o44.2))
                else none)
            else none
          else
            some (.inl (x4 + (1 : Int32), o26.2))))
  else none
set_option maxRecDepth 20000 in
theorem l4_firstUnnamedChild_3 (C : ce_Cx p s m args c meth b4_firstUnnamedChild 6 (some .int) cn_4 D ad cA B0 (ce_St aK aV B0)) (F : Nat) (k1 : Nat) (k2 : Nat) (x3 : Int32) (hk1 : ce_isNet k1) (hk2 : ce_isEl k2) (r : Int32 × Hp) (g : ((Int32 × Hp) ⊕ (Hp)) → Option (Int32 × Hp)) (hx : ∀  (h : Hp) (H : Heap) (locs : List Loc) (ls : Array Slot), ce_H D ad cA B0 [] s h H locs → lv_has ls 6 [] → g (.inr h) = some r → W p l e0 { frames := 2, cells := 0, slots := 0, locals := 44 } s m args below meth c H locs 0 0 (MQ below (ce_Q D ad cA B0 (ce_St aK aV B0) (some (.int r.1)) r.2) args s 0 0 (fun q => B0 ≤ q)) (F0 m 69 ls [])) (he : ∀ z, g (.inl z) = some z) : ∀ (n : Nat) (x4 : Int32) (h : Hp) (H : Heap) (locs : List Loc) (ls : Array Slot), ce_H D ad cA B0 [] s h H locs → lv_has ls 6 [(0, .ref (ad 62)), (1, .ref (ad k1)), (2, .ref (ad k2)), (3, .int x3), (4, .int x4)] → Option.bind (ce_it (fun (st : Int32 × Hp) => f4_firstUnnamedChild_b3 F k1 k2 x3 st.1 st.2) n (x4, h)) g = some r → W p l e0 { frames := 2, cells := 0, slots := 0, locals := 44 } s m args below meth c H locs 0 0 (MQ below (ce_Q D ad cA B0 (ce_St aK aV B0) (some (.int r.1)) r.2) args s 0 0 (fun q => B0 ≤ q)) (F0 m 3 ls []) := by
  intro n
  induction n with
  | zero =>
    intro x4 h H locs ls hH hl e
    exact absurd e (fun z => by cases z)
  | succ n ih =>
    intro x4 h H locs ls hH hl e
    have hx9 := C.1
    have hb := C.2.1
    have e : Option.bind (f4_firstUnnamedChild_b3 F k1 k2 x3 x4 h) _ = some r := ce_it_bd e
    unfold f4_firstUnnamedChild_b3 at e
    refine lv_iload hx9 hb d4_firstUnnamedChild_3 (lv_at hl 4 rfl) ?_
    refine lv_aload_n hx9 hb d4_firstUnnamedChild_5 rfl (lv_at hl 1 rfl) ?_
    refine gf_4_53 C hH hk1 d4_firstUnnamedChild_6 ?_
    refine lv_iload_n hx9 hb d4_firstUnnamedChild_9 rfl (lv_at hl 3 rfl) ?_
    obtain ⟨hi10, e⟩ := ce_gd e
    refine ce_iald C hH (la_Net_1 hk1).1 (la_Net_1 hk1).2 (ce_in_vp hi10) d4_firstUnnamedChild_10 ?_
    refine lv_icmp_ge (tgt := 69) hx9 hb d4_firstUnnamedChild_11 (by decide) (fun hc11 => ?_) (fun hc11 => ?_)
    · have e := ce_if1 e hc11
      exact hx  h _ _ _ hH (lv_sub hl [] rfl) e
    · have e := ce_if0 e hc11
      refine lv_iload_n hx9 hb d4_firstUnnamedChild_14 rfl (lv_at hl 3 rfl) ?_
      refine lv_iload hx9 hb d4_firstUnnamedChild_15 (lv_at hl 4 rfl) ?_
      obtain ⟨o17, eo17, e⟩ := ce_bd e
      refine ce_callN (As := [.int x3, .int x4]) (rest := []) C (ce_sok aK aV B0) hH (c11_endOf l D ad cA aK aV B0 C.2.2.2.2.2.2.1 F x3 x4  h o17 eo17) mc11_endOf (ce_nwW C.2.2.2.2.2.2.2.2.2.2 17 rfl) mt11_endOf mI_11 (n := 2) (by decide) rfl ⟨Nat.le_of_ble_eq_true rfl, Nat.le_of_ble_eq_true rfl⟩ ⟨Nat.le_of_ble_eq_true rfl, Nat.le_of_ble_eq_true rfl⟩ hl.1 rfl (Nat.le_of_ble_eq_true rfl) d4_firstUnnamedChild_17 (fun H locs hH => ?_)
      refine W.eq (g2 := F0 m 20 ls [.int o17.1]) rfl ?_
      refine lv_istore (lv' := [(5, .int o17.1), (0, .ref (ad 62)), (1, .ref (ad k1)), (2, .ref (ad k2)), (3, .int x3), (4, .int x4)]) hx9 hb d4_firstUnnamedChild_20 hl (by decide) rfl (fun ls hl => ?_)
      refine lv_aload_n hx9 hb d4_firstUnnamedChild_22 rfl (lv_at hl 3 rfl) ?_
      refine lv_aload_n hx9 hb d4_firstUnnamedChild_23 rfl (lv_at hl 2 rfl) ?_
      refine lv_iload hx9 hb d4_firstUnnamedChild_24 (lv_at hl 0 rfl) ?_
      obtain ⟨o26, eo26, e⟩ := ce_bd e
      refine ce_callV (As := [.ref (ad k1), .int o17.1]) (rest := []) C (ce_sok aK aV B0) hH (c3_roleOf l D ad cA aK aV B0 C.2.2.2.2.2.2.1 F k2 k1 o17.1 hk2 hk1 o17.2 o26 eo26) (lk_El hk2).1 (lk_El hk2).2.choose_spec rfl rfl mc3_roleOf ml_4_60 mi3_roleOf ms3_roleOf mI_3 (n := 2) (by decide) rfl ⟨Nat.le_of_ble_eq_true rfl, Nat.le_of_ble_eq_true rfl⟩ ⟨Nat.le_of_ble_eq_true rfl, Nat.le_of_ble_eq_true rfl⟩ hl.1 rfl (Nat.le_of_ble_eq_true rfl) d4_firstUnnamedChild_26 (fun H locs hH => ?_)
      refine W.eq (g2 := F0 m 29 ls [.int o26.1]) rfl ?_
      refine lv_iconst (v := (2 : Int32)) hx9 hb d4_firstUnnamedChild_29 (by decide) ?_
      refine lv_icmp_ne (tgt := 63) hx9 hb d4_firstUnnamedChild_30 (by decide) (fun hc30 => ?_) (fun hc30 => ?_)
      · have e := ce_if0 e hc30
        refine lv_iinc (v := x4 + (1 : Int32)) (lv' := [(4, .int (x4 + (1 : Int32))), (5, .int o17.1), (0, .ref (ad 62)), (1, .ref (ad k1)), (2, .ref (ad k2)), (3, .int x3)]) hx9 hb d4_firstUnnamedChild_63 hl (k := 5) rfl rfl (by decide) rfl (fun ls hl => ?_)
        refine lv_goto (tgt := 3) hx9 hb d4_firstUnnamedChild_66 (by decide) ?_
        exact ih (x4 + (1 : Int32)) o26.2 _ _ _ hH (lv_sub hl [2, 3, 4, 5, 0] rfl) e
      · have e := ce_if1 e hc30
        refine lv_aload_n hx9 hb d4_firstUnnamedChild_33 rfl (lv_at hl 1 rfl) ?_
        refine gf_4_9 C hH d4_firstUnnamedChild_34 ?_
        refine lv_aload_n hx9 hb d4_firstUnnamedChild_37 rfl (lv_at hl 2 rfl) ?_
        refine gf_4_63 C hH hk1 d4_firstUnnamedChild_38 ?_
        refine lv_iload hx9 hb d4_firstUnnamedChild_41 (lv_at hl 0 rfl) ?_
        obtain ⟨hi43, e⟩ := ce_gd e
        refine ce_iald C hH (la_Net_5 hk1).1 (la_Net_5 hk1).2 (ce_in_vp hi43) d4_firstUnnamedChild_43 ?_
        obtain ⟨o44, eo44, e⟩ := ce_bd e
        refine ce_callN (As := [.int (o26.2 (k1 + 5) (o17.1).toNatClampNeg)]) (rest := [.ref (ad 63)]) C (ce_sok aK aV B0) hH (c11_nodeOf l D ad cA aK aV B0 C.2.2.2.2.2.2.1 F (o26.2 (k1 + 5) (o17.1).toNatClampNeg)  o26.2 o44 eo44) mc11_nodeOf (ce_nwW C.2.2.2.2.2.2.2.2.2.2 18 rfl) mt11_nodeOf mI_11 (n := 1) (by decide) rfl ⟨Nat.le_of_ble_eq_true rfl, Nat.le_of_ble_eq_true rfl⟩ ⟨Nat.le_of_ble_eq_true rfl, Nat.le_of_ble_eq_true rfl⟩ hl.1 rfl (Nat.le_of_ble_eq_true rfl) d4_firstUnnamedChild_44 (fun H locs hH => ?_)
        refine W.eq (g2 := F0 m 47 ls [.int o44.1, .ref (ad 63)]) rfl ?_
        obtain ⟨hi47, e⟩ := ce_gd e
        refine ce_iald C hH lc_63.1 lc_63.2 (ce_in_vp hi47) d4_firstUnnamedChild_47 ?_
        refine lv_iconst (v := (-1 : Int32)) hx9 hb d4_firstUnnamedChild_48 (by decide) ?_
        refine lv_icmp_ne (tgt := 63) hx9 hb d4_firstUnnamedChild_49 (by decide) (fun hc49 => ?_) (fun hc49 => ?_)
        · have e := ce_if0 e hc49
          refine lv_iinc (v := x4 + (1 : Int32)) (lv' := [(4, .int (x4 + (1 : Int32))), (5, .int o17.1), (0, .ref (ad 62)), (1, .ref (ad k1)), (2, .ref (ad k2)), (3, .int x3)]) hx9 hb d4_firstUnnamedChild_63 hl (k := 5) rfl rfl (by decide) rfl (fun ls hl => ?_)
          refine lv_goto (tgt := 3) hx9 hb d4_firstUnnamedChild_66 (by decide) ?_
          exact ih (x4 + (1 : Int32)) o44.2 _ _ _ hH (lv_sub hl [2, 3, 4, 5, 0] rfl) e
        · have e := ce_if1 e hc49
          refine lv_aload_n hx9 hb d4_firstUnnamedChild_52 rfl (lv_at hl 2 rfl) ?_
          refine gf_4_63 C hH hk1 d4_firstUnnamedChild_53 ?_
          refine lv_iload hx9 hb d4_firstUnnamedChild_56 (lv_at hl 0 rfl) ?_
          obtain ⟨hi58, e⟩ := ce_gd e
          refine ce_iald C hH (la_Net_5 hk1).1 (la_Net_5 hk1).2 (ce_in_vp hi58) d4_firstUnnamedChild_58 ?_
          obtain ⟨o59, eo59, e⟩ := ce_bd e
          refine ce_callN (As := [.int (o44.2 (k1 + 5) (o17.1).toNatClampNeg)]) (rest := []) C (ce_sok aK aV B0) hH (c11_nodeOf l D ad cA aK aV B0 C.2.2.2.2.2.2.1 F (o44.2 (k1 + 5) (o17.1).toNatClampNeg)  o44.2 o59 eo59) mc11_nodeOf (ce_nwW C.2.2.2.2.2.2.2.2.2.2 18 rfl) mt11_nodeOf mI_11 (n := 1) (by decide) rfl ⟨Nat.le_of_ble_eq_true rfl, Nat.le_of_ble_eq_true rfl⟩ ⟨Nat.le_of_ble_eq_true rfl, Nat.le_of_ble_eq_true rfl⟩ hl.1 rfl (Nat.le_of_ble_eq_true rfl) d4_firstUnnamedChild_59 (fun H locs hH => ?_)
          refine W.eq (g2 := F0 m 62 ls [.int o59.1]) rfl ?_
          have e := (he _).symm.trans e
          exact ce_iretE C (ce_sok aK aV B0) hH e d4_firstUnnamedChild_62
def f4_firstUnnamedChild (F : Nat) (k1 : Nat) (k2 : Nat) (x3 : Int32) (h : Hp) : Option (Int32 × Hp) :=
  Option.bind (ce_it (fun (st : Int32 × Hp) => f4_firstUnnamedChild_b3 F k1 k2 x3 st.1 st.2) F ((0 : Int32), h)) (fun o3w => match o3w with
    | .inl z => some z
    | .inr o3 =>
      some ((-1 : Int32), o3))
set_option maxRecDepth 20000 in
theorem c4_firstUnnamedChild (l : Launch) (D : va_G) (ad : Nat → Nat) (cA : Nat → ClassId) (aK aV : Nat → Nat) (B0 : Nat) (hA : ce_Ad ad B0) (F : Nat) (k1 : Nat) (k2 : Nat) (x3 : Int32) (hk1 : ce_isNet k1) (hk2 : ce_isEl k2) (h : Hp) (r : Int32 × Hp) (e : f4_firstUnnamedChild F k1 k2 x3 h = some r) : ce_Ct l D ad cA B0 (ce_St aK aV B0) y4_firstUnnamedChild b4_firstUnnamedChild 6 (some .int) 2 44 0 0 [.ref (ad 62), .ref (ad k1), .ref (ad k2), .int x3] h (some (.int r.1)) r.2 := by
  refine ce_enter hA (by decide) rfl (Nat.le_of_ble_eq_true rfl) (fun p e0 s m below meth c ls C hH hl => ?_)
  have hl : lv_has ls 6 [(0, .ref (ad 62)), (1, .ref (ad k1)), (2, .ref (ad k2)), (3, .int x3)] := hl
  have hx := C.1
  have hb := C.2.1
  have e : Option.bind _ some = some r := (congrArg (fun z => Option.bind z some) e).trans rfl
  unfold f4_firstUnnamedChild at e
  refine lv_iconst (v := (0 : Int32)) hx hb d4_firstUnnamedChild_0 (by decide) ?_
  refine lv_istore (lv' := [(4, .int (0 : Int32)), (0, .ref (ad 62)), (1, .ref (ad k1)), (2, .ref (ad k2)), (3, .int x3)]) hx hb d4_firstUnnamedChild_1 hl (by decide) rfl (fun ls hl => ?_)
  refine l4_firstUnnamedChild_3 C F k1 k2 x3 hk1 hk2 r _ (fun  h_3 H locs ls hH hl e => ?_) (fun z => rfl) F (0 : Int32) h _ _ _ hH (lv_sub hl [1, 2, 3, 4, 0] rfl) (ce_as e)
  try dsimp only at e
  refine lv_iconst (v := (-1 : Int32)) hx hb d4_firstUnnamedChild_69 (by decide) ?_
  exact ce_iretE C (ce_sok aK aV B0) hH e d4_firstUnnamedChild_70
abbrev b4_nameFrom : ByteArray := prog_6_method_3_code
def y4_nameFrom : MethodName := ⟨cn_4, "nameFrom", "(LCableElection$Net;LCableElection$Election;II)V"⟩
theorem d4_nameFrom_0 : decode b4_nameFrom 0 = .ok (.iload_n 3, 1) := by decide +kernel
theorem d4_nameFrom_1 : decode b4_nameFrom 1 = .ok (.istore 5, 2) := by decide +kernel
theorem d4_nameFrom_3 : decode b4_nameFrom 3 = .ok (.iconst 0, 1) := by decide +kernel
theorem d4_nameFrom_4 : decode b4_nameFrom 4 = .ok (.istore 6, 2) := by decide +kernel
theorem d4_nameFrom_6 : decode b4_nameFrom 6 = .ok (.iconst 0, 1) := by decide +kernel
theorem d4_nameFrom_7 : decode b4_nameFrom 7 = .ok (.istore 7, 2) := by decide +kernel
theorem d4_nameFrom_9 : decode b4_nameFrom 9 = .ok (.iload 7, 2) := by decide +kernel
theorem d4_nameFrom_11 : decode b4_nameFrom 11 = .ok (.bipush 20, 2) := by decide +kernel
theorem d4_nameFrom_13 : decode b4_nameFrom 13 = .ok (.if_icmp .ge 78, 3) := by decide +kernel
theorem d4_nameFrom_16 : decode b4_nameFrom 16 = .ok (.iload 5, 2) := by decide +kernel
theorem d4_nameFrom_18 : decode b4_nameFrom 18 = .ok (.iconst (-1), 1) := by decide +kernel
theorem d4_nameFrom_19 : decode b4_nameFrom 19 = .ok (.if_icmp .eq 72, 3) := by decide +kernel
theorem d4_nameFrom_22 : decode b4_nameFrom 22 = .ok (.aload_n 0, 1) := by decide +kernel
theorem d4_nameFrom_23 : decode b4_nameFrom 23 = .ok (.aload_n 1, 1) := by decide +kernel
theorem d4_nameFrom_24 : decode b4_nameFrom 24 = .ok (.aload_n 2, 1) := by decide +kernel
theorem d4_nameFrom_25 : decode b4_nameFrom 25 = .ok (.iload 5, 2) := by decide +kernel
theorem d4_nameFrom_27 : decode b4_nameFrom 27 = .ok (.invokevirtual 45, 3) := by decide +kernel
theorem d4_nameFrom_30 : decode b4_nameFrom 30 = .ok (.istore 8, 2) := by decide +kernel
theorem d4_nameFrom_32 : decode b4_nameFrom 32 = .ok (.iload 8, 2) := by decide +kernel
theorem d4_nameFrom_34 : decode b4_nameFrom 34 = .ok (.iconst (-1), 1) := by decide +kernel
theorem d4_nameFrom_35 : decode b4_nameFrom 35 = .ok (.if_icmp .eq 10, 3) := by decide +kernel
theorem d4_nameFrom_38 : decode b4_nameFrom 38 = .ok (.iload 8, 2) := by decide +kernel
theorem d4_nameFrom_40 : decode b4_nameFrom 40 = .ok (.istore 5, 2) := by decide +kernel
theorem d4_nameFrom_42 : decode b4_nameFrom 42 = .ok (.goto 43, 3) := by decide +kernel
theorem d4_nameFrom_45 : decode b4_nameFrom 45 = .ok (.aload_n 0, 1) := by decide +kernel
theorem d4_nameFrom_46 : decode b4_nameFrom 46 = .ok (.getfield 9, 3) := by decide +kernel
theorem d4_nameFrom_49 : decode b4_nameFrom 49 = .ok (.iload 5, 2) := by decide +kernel
theorem d4_nameFrom_51 : decode b4_nameFrom 51 = .ok (.iload 6, 2) := by decide +kernel
theorem d4_nameFrom_53 : decode b4_nameFrom 53 = .ok (.iastore, 1) := by decide +kernel
theorem d4_nameFrom_54 : decode b4_nameFrom 54 = .ok (.iload 6, 2) := by decide +kernel
theorem d4_nameFrom_56 : decode b4_nameFrom 56 = .ok (.bipush 10, 2) := by decide +kernel
theorem d4_nameFrom_58 : decode b4_nameFrom 58 = .ok (.if_icmp .ge 15, 3) := by decide +kernel
theorem d4_nameFrom_61 : decode b4_nameFrom 61 = .ok (.aload_n 0, 1) := by decide +kernel
theorem d4_nameFrom_62 : decode b4_nameFrom 62 = .ok (.getfield 15, 3) := by decide +kernel
theorem d4_nameFrom_65 : decode b4_nameFrom 65 = .ok (.iload 4, 2) := by decide +kernel
theorem d4_nameFrom_67 : decode b4_nameFrom 67 = .ok (.iload 6, 2) := by decide +kernel
theorem d4_nameFrom_69 : decode b4_nameFrom 69 = .ok (.iadd, 1) := by decide +kernel
theorem d4_nameFrom_70 : decode b4_nameFrom 70 = .ok (.iload 5, 2) := by decide +kernel
theorem d4_nameFrom_72 : decode b4_nameFrom 72 = .ok (.iastore, 1) := by decide +kernel
theorem d4_nameFrom_73 : decode b4_nameFrom 73 = .ok (.iinc 6 1, 3) := by decide +kernel
theorem d4_nameFrom_76 : decode b4_nameFrom 76 = .ok (.aload_n 2, 1) := by decide +kernel
theorem d4_nameFrom_77 : decode b4_nameFrom 77 = .ok (.aload_n 1, 1) := by decide +kernel
theorem d4_nameFrom_78 : decode b4_nameFrom 78 = .ok (.iload 5, 2) := by decide +kernel
theorem d4_nameFrom_80 : decode b4_nameFrom 80 = .ok (.invokevirtual 49, 3) := by decide +kernel
theorem d4_nameFrom_83 : decode b4_nameFrom 83 = .ok (.istore 5, 2) := by decide +kernel
theorem d4_nameFrom_85 : decode b4_nameFrom 85 = .ok (.iinc 7 1, 3) := by decide +kernel
theorem d4_nameFrom_88 : decode b4_nameFrom 88 = .ok (.goto (-79), 3) := by decide +kernel
theorem d4_nameFrom_91 : decode b4_nameFrom 91 = .ok (.return_, 1) := by decide +kernel
theorem ml_4_49 : Cond.methodLink cn_4 49 y3_parentOf ∈ ce_cm := ce_cm_of (List.mem_of_getElem? (i := 788) (by decide +kernel)) (by decide +kernel)
theorem fl_4_15 : Cond.fieldLink cn_4 15 (ft_4 1).1 (ft_4 1).2.1 (ft_4 1).2.2.1 ∈ ce_cm := ce_cm_of (List.mem_of_getElem? (i := 410) (by decide +kernel)) (by decide +kernel)
theorem gf_4_15 (C : ce_Cx p s m args c meth cc nL ret cn_4 D ad cA B0 (ce_St aK aV B0)) (hH : ce_H D ad cA B0 X s h H locs) (hdg : decode cc pc = .ok (.getfield 15, 3)) (kk : W p l e0 R s m args below meth c H locs cells slots Q (F0 m (pc + 3) ls (.ref (ad 64) :: rest))) : W p l e0 R s m args below meth c H locs cells slots Q (F0 m pc ls (.ref (ad 62) :: rest)) := by
  exact ce_get C hH (k := 62) (ci := 4) (j := 1) (N := 2) (sj := some (some 64)) (by decide) rfl rfl fw_4 (by decide) fl_4_15 rfl hdg kk
theorem lc_64 : 64 < 96 ∧ ce_lay 64 = .inl (0, 100) := ⟨by decide, rfl⟩
theorem lo_62 : 62 < 96 ∧ ∃ sl, ce_lay 62 = .inr (4, sl) := ⟨by decide, _, rfl⟩
theorem mc4_firstUnnamedChild : Cond.code y4_firstUnnamedChild b4_firstUnnamedChild 6 (some .int) ∈ ce_cm := ce_cm_of (List.mem_of_getElem? (i := 781) (by decide +kernel)) (by decide +kernel)
theorem ml_4_45 : Cond.methodLink cn_4 45 y4_firstUnnamedChild ∈ ce_cm := ce_cm_of (List.mem_of_getElem? (i := 778) (by decide +kernel)) (by decide +kernel)
theorem mi4_firstUnnamedChild : Cond.instanceMethod y4_firstUnnamedChild ∈ ce_cm := ce_cm_of (List.mem_of_getElem? (i := 780) (by decide +kernel)) (by decide +kernel)
theorem ms4_firstUnnamedChild : Cond.selects cn_4 y4_firstUnnamedChild y4_firstUnnamedChild ∈ ce_cm := ce_cm_of (List.mem_of_getElem? (i := 19) (by decide +kernel)) (by decide +kernel)
theorem mI_4 : Cond.initialized cn_4 ∈ ce_cm := ce_cm_of (List.mem_of_getElem? (i := 101) (by decide +kernel)) (by decide +kernel)
def f4_nameFrom_b9 (F : Nat) (k1 : Nat) (k2 : Nat) (x4 : Int32) (x5 : Int32) (x6 : Int32) (x7 : Int32) (h : Hp) : Option ((Int32 × Int32 × Int32 × Hp) ⊕ (Hp)) :=
  if (20 : Int32) ≤ x7 then
    some (.inr h)
  else
    if x5 = (-1 : Int32) then
      some (.inr h)
    else
      Option.bind (f4_firstUnnamedChild F k1 k2 x5 h) (fun o27 =>
        if o27.1 = (-1 : Int32) then
          if ce_in x5 10 = true then
            ce_nm (hp_up o27.2 63 (x5).toNatClampNeg x6) (fun h_53 =>
              if (10 : Int32) ≤ x6 then
                Option.bind (f3_parentOf F k2 k1 x5 h_53) (fun o80 =>
                  some (.inl (o80.1, x6 + (1 : Int32), x7 + (1 : Int32), o80.2)))
              else
                if ce_in (x4 + x6) 100 = true then
                  ce_nm (hp_up h_53 64 ((x4 + x6)).toNatClampNeg x5) (fun h_72 =>
                    Option.bind (f3_parentOf F k2 k1 x5 h_72) (fun o80 =>
                      some (.inl (o80.1, x6 + (1 : Int32), x7 + (1 : Int32), o80.2))))
                else none)
          else none
        else
          some (.inl (o27.1, x6, x7 + (1 : Int32), o27.2)))
set_option maxRecDepth 20000 in
theorem l4_nameFrom_9 (C : ce_Cx p s m args c meth b4_nameFrom 9 none cn_4 D ad cA B0 (ce_St aK aV B0)) (F : Nat) (k1 : Nat) (k2 : Nat) (x4 : Int32) (hk1 : ce_isNet k1) (hk2 : ce_isEl k2) (r : Hp) (g : (Hp) → Option (Hp)) (hx : ∀  (h : Hp) (H : Heap) (locs : List Loc) (ls : Array Slot), ce_H D ad cA B0 [] s h H locs → lv_has ls 9 [] → g h = some r → W p l e0 { frames := 3, cells := 0, slots := 0, locals := 69 } s m args below meth c H locs 0 0 (MQ below (ce_Q D ad cA B0 (ce_St aK aV B0) none r) args s 0 0 (fun q => B0 ≤ q)) (F0 m 91 ls [])) : ∀ (n : Nat) (x5 : Int32) (x6 : Int32) (x7 : Int32) (h : Hp) (H : Heap) (locs : List Loc) (ls : Array Slot), ce_H D ad cA B0 [] s h H locs → lv_has ls 9 [(0, .ref (ad 62)), (1, .ref (ad k1)), (2, .ref (ad k2)), (4, .int x4), (5, .int x5), (6, .int x6), (7, .int x7)] → Option.bind (ce_it (fun (st : Int32 × Int32 × Int32 × Hp) => f4_nameFrom_b9 F k1 k2 x4 st.1 st.2.1 st.2.2.1 st.2.2.2) n (x5, x6, x7, h)) g = some r → W p l e0 { frames := 3, cells := 0, slots := 0, locals := 69 } s m args below meth c H locs 0 0 (MQ below (ce_Q D ad cA B0 (ce_St aK aV B0) none r) args s 0 0 (fun q => B0 ≤ q)) (F0 m 9 ls []) := by
  intro n
  induction n with
  | zero =>
    intro x5 x6 x7 h H locs ls hH hl e
    exact absurd e (fun z => by cases z)
  | succ n ih =>
    intro x5 x6 x7 h H locs ls hH hl e
    have hx9 := C.1
    have hb := C.2.1
    have e : Option.bind (f4_nameFrom_b9 F k1 k2 x4 x5 x6 x7 h) _ = some r := ce_it_bd e
    unfold f4_nameFrom_b9 at e
    refine lv_iload hx9 hb d4_nameFrom_9 (lv_at hl 6 rfl) ?_
    refine lv_bipush (v := (20 : Int32)) hx9 hb d4_nameFrom_11 (by decide) ?_
    refine lv_icmp_ge (tgt := 91) hx9 hb d4_nameFrom_13 (by decide) (fun hc13 => ?_) (fun hc13 => ?_)
    · have e := ce_if1 e hc13
      exact hx  h _ _ _ hH (lv_sub hl [] rfl) e
    · have e := ce_if0 e hc13
      refine lv_iload hx9 hb d4_nameFrom_16 (lv_at hl 4 rfl) ?_
      refine lv_iconst (v := (-1 : Int32)) hx9 hb d4_nameFrom_18 (by decide) ?_
      refine lv_icmp_eq (tgt := 91) hx9 hb d4_nameFrom_19 (by decide) (fun hc19 => ?_) (fun hc19 => ?_)
      · have e := ce_if1 e hc19
        exact hx  h _ _ _ hH (lv_sub hl [] rfl) e
      · have e := ce_if0 e hc19
        refine lv_aload_n hx9 hb d4_nameFrom_22 rfl (lv_at hl 0 rfl) ?_
        refine lv_aload_n hx9 hb d4_nameFrom_23 rfl (lv_at hl 1 rfl) ?_
        refine lv_aload_n hx9 hb d4_nameFrom_24 rfl (lv_at hl 2 rfl) ?_
        refine lv_iload hx9 hb d4_nameFrom_25 (lv_at hl 4 rfl) ?_
        obtain ⟨o27, eo27, e⟩ := ce_bd e
        refine ce_callV (As := [.ref (ad k1), .ref (ad k2), .int x5]) (rest := []) C (ce_sok aK aV B0) hH (c4_firstUnnamedChild l D ad cA aK aV B0 C.2.2.2.2.2.2.1 F k1 k2 x5 hk1 hk2 h o27 eo27) lo_62.1 lo_62.2.choose_spec rfl rfl mc4_firstUnnamedChild ml_4_45 mi4_firstUnnamedChild ms4_firstUnnamedChild mI_4 (n := 3) (by decide) rfl ⟨Nat.le_of_ble_eq_true rfl, Nat.le_of_ble_eq_true rfl⟩ ⟨Nat.le_of_ble_eq_true rfl, Nat.le_of_ble_eq_true rfl⟩ hl.1 rfl (Nat.le_of_ble_eq_true rfl) d4_nameFrom_27 (fun H locs hH => ?_)
        refine W.eq (g2 := F0 m 30 ls [.int o27.1]) rfl ?_
        refine lv_istore (lv' := [(8, .int o27.1), (0, .ref (ad 62)), (1, .ref (ad k1)), (2, .ref (ad k2)), (4, .int x4), (5, .int x5), (6, .int x6), (7, .int x7)]) hx9 hb d4_nameFrom_30 hl (by decide) rfl (fun ls hl => ?_)
        refine lv_iload hx9 hb d4_nameFrom_32 (lv_at hl 0 rfl) ?_
        refine lv_iconst (v := (-1 : Int32)) hx9 hb d4_nameFrom_34 (by decide) ?_
        refine lv_icmp_eq (tgt := 45) hx9 hb d4_nameFrom_35 (by decide) (fun hc35 => ?_) (fun hc35 => ?_)
        · have e := ce_if1 e hc35
          refine lv_aload_n hx9 hb d4_nameFrom_45 rfl (lv_at hl 1 rfl) ?_
          refine gf_4_9 C hH d4_nameFrom_46 ?_
          refine lv_iload hx9 hb d4_nameFrom_49 (lv_at hl 5 rfl) ?_
          refine lv_iload hx9 hb d4_nameFrom_51 (lv_at hl 6 rfl) ?_
          obtain ⟨hi53, e⟩ := ce_gd e
          refine ce_iast C hH lc_63.1 lc_63.2 (ce_in_vp hi53) d4_nameFrom_53 (fun H locs hH => ?_)
          obtain ⟨h_53, eh_53, e⟩ := ce_nmE e
          rw [← eh_53] at hH
          refine lv_iload hx9 hb d4_nameFrom_54 (lv_at hl 6 rfl) ?_
          refine lv_bipush (v := (10 : Int32)) hx9 hb d4_nameFrom_56 (by decide) ?_
          refine lv_icmp_ge (tgt := 73) hx9 hb d4_nameFrom_58 (by decide) (fun hc58 => ?_) (fun hc58 => ?_)
          · have e := ce_if1 e hc58
            refine lv_iinc (v := x6 + (1 : Int32)) (lv' := [(6, .int (x6 + (1 : Int32))), (8, .int o27.1), (0, .ref (ad 62)), (1, .ref (ad k1)), (2, .ref (ad k2)), (4, .int x4), (5, .int x5), (7, .int x7)]) hx9 hb d4_nameFrom_73 hl (k := 6) rfl rfl (by decide) rfl (fun ls hl => ?_)
            refine lv_aload_n hx9 hb d4_nameFrom_76 rfl (lv_at hl 4 rfl) ?_
            refine lv_aload_n hx9 hb d4_nameFrom_77 rfl (lv_at hl 3 rfl) ?_
            refine lv_iload hx9 hb d4_nameFrom_78 (lv_at hl 6 rfl) ?_
            obtain ⟨o80, eo80, e⟩ := ce_bd e
            refine ce_callV (As := [.ref (ad k1), .int x5]) (rest := []) C (ce_sok aK aV B0) hH (c3_parentOf l D ad cA aK aV B0 C.2.2.2.2.2.2.1 F k2 k1 x5 hk2 hk1 h_53 o80 eo80) (lk_El hk2).1 (lk_El hk2).2.choose_spec rfl rfl mc3_parentOf ml_4_49 mi3_parentOf ms3_parentOf mI_3 (n := 2) (by decide) rfl ⟨Nat.le_of_ble_eq_true rfl, Nat.le_of_ble_eq_true rfl⟩ ⟨Nat.le_of_ble_eq_true rfl, Nat.le_of_ble_eq_true rfl⟩ hl.1 rfl (Nat.le_of_ble_eq_true rfl) d4_nameFrom_80 (fun H locs hH => ?_)
            refine W.eq (g2 := F0 m 83 ls [.int o80.1]) rfl ?_
            refine lv_istore (lv' := [(5, .int o80.1), (6, .int (x6 + (1 : Int32))), (8, .int o27.1), (0, .ref (ad 62)), (1, .ref (ad k1)), (2, .ref (ad k2)), (4, .int x4), (7, .int x7)]) hx9 hb d4_nameFrom_83 hl (by decide) rfl (fun ls hl => ?_)
            refine lv_iinc (v := x7 + (1 : Int32)) (lv' := [(7, .int (x7 + (1 : Int32))), (5, .int o80.1), (6, .int (x6 + (1 : Int32))), (8, .int o27.1), (0, .ref (ad 62)), (1, .ref (ad k1)), (2, .ref (ad k2)), (4, .int x4)]) hx9 hb d4_nameFrom_85 hl (k := 7) rfl rfl (by decide) rfl (fun ls hl => ?_)
            refine lv_goto (tgt := 9) hx9 hb d4_nameFrom_88 (by decide) ?_
            exact ih o80.1 (x6 + (1 : Int32)) (x7 + (1 : Int32)) o80.2 _ _ _ hH (lv_sub hl [4, 5, 6, 7, 1, 2, 0] rfl) e
          · have e := ce_if0 e hc58
            refine lv_aload_n hx9 hb d4_nameFrom_61 rfl (lv_at hl 1 rfl) ?_
            refine gf_4_15 C hH d4_nameFrom_62 ?_
            refine lv_iload hx9 hb d4_nameFrom_65 (lv_at hl 4 rfl) ?_
            refine lv_iload hx9 hb d4_nameFrom_67 (lv_at hl 6 rfl) ?_
            refine lv_iadd hx9 hb d4_nameFrom_69 ?_
            refine lv_iload hx9 hb d4_nameFrom_70 (lv_at hl 5 rfl) ?_
            obtain ⟨hi72, e⟩ := ce_gd e
            refine ce_iast C hH lc_64.1 lc_64.2 (ce_in_vp hi72) d4_nameFrom_72 (fun H locs hH => ?_)
            obtain ⟨h_72, eh_72, e⟩ := ce_nmE e
            rw [← eh_72] at hH
            refine lv_iinc (v := x6 + (1 : Int32)) (lv' := [(6, .int (x6 + (1 : Int32))), (8, .int o27.1), (0, .ref (ad 62)), (1, .ref (ad k1)), (2, .ref (ad k2)), (4, .int x4), (5, .int x5), (7, .int x7)]) hx9 hb d4_nameFrom_73 hl (k := 6) rfl rfl (by decide) rfl (fun ls hl => ?_)
            refine lv_aload_n hx9 hb d4_nameFrom_76 rfl (lv_at hl 4 rfl) ?_
            refine lv_aload_n hx9 hb d4_nameFrom_77 rfl (lv_at hl 3 rfl) ?_
            refine lv_iload hx9 hb d4_nameFrom_78 (lv_at hl 6 rfl) ?_
            obtain ⟨o80, eo80, e⟩ := ce_bd e
            refine ce_callV (As := [.ref (ad k1), .int x5]) (rest := []) C (ce_sok aK aV B0) hH (c3_parentOf l D ad cA aK aV B0 C.2.2.2.2.2.2.1 F k2 k1 x5 hk2 hk1 h_72 o80 eo80) (lk_El hk2).1 (lk_El hk2).2.choose_spec rfl rfl mc3_parentOf ml_4_49 mi3_parentOf ms3_parentOf mI_3 (n := 2) (by decide) rfl ⟨Nat.le_of_ble_eq_true rfl, Nat.le_of_ble_eq_true rfl⟩ ⟨Nat.le_of_ble_eq_true rfl, Nat.le_of_ble_eq_true rfl⟩ hl.1 rfl (Nat.le_of_ble_eq_true rfl) d4_nameFrom_80 (fun H locs hH => ?_)
            refine W.eq (g2 := F0 m 83 ls [.int o80.1]) rfl ?_
            refine lv_istore (lv' := [(5, .int o80.1), (6, .int (x6 + (1 : Int32))), (8, .int o27.1), (0, .ref (ad 62)), (1, .ref (ad k1)), (2, .ref (ad k2)), (4, .int x4), (7, .int x7)]) hx9 hb d4_nameFrom_83 hl (by decide) rfl (fun ls hl => ?_)
            refine lv_iinc (v := x7 + (1 : Int32)) (lv' := [(7, .int (x7 + (1 : Int32))), (5, .int o80.1), (6, .int (x6 + (1 : Int32))), (8, .int o27.1), (0, .ref (ad 62)), (1, .ref (ad k1)), (2, .ref (ad k2)), (4, .int x4)]) hx9 hb d4_nameFrom_85 hl (k := 7) rfl rfl (by decide) rfl (fun ls hl => ?_)
            refine lv_goto (tgt := 9) hx9 hb d4_nameFrom_88 (by decide) ?_
            exact ih o80.1 (x6 + (1 : Int32)) (x7 + (1 : Int32)) o80.2 _ _ _ hH (lv_sub hl [4, 5, 6, 7, 1, 2, 0] rfl) e
        · have e := ce_if0 e hc35
          refine lv_iload hx9 hb d4_nameFrom_38 (lv_at hl 0 rfl) ?_
          refine lv_istore (lv' := [(5, .int o27.1), (8, .int o27.1), (0, .ref (ad 62)), (1, .ref (ad k1)), (2, .ref (ad k2)), (4, .int x4), (6, .int x6), (7, .int x7)]) hx9 hb d4_nameFrom_40 hl (by decide) rfl (fun ls hl => ?_)
          refine lv_goto (tgt := 85) hx9 hb d4_nameFrom_42 (by decide) ?_
          refine lv_iinc (v := x7 + (1 : Int32)) (lv' := [(7, .int (x7 + (1 : Int32))), (5, .int o27.1), (8, .int o27.1), (0, .ref (ad 62)), (1, .ref (ad k1)), (2, .ref (ad k2)), (4, .int x4), (6, .int x6)]) hx9 hb d4_nameFrom_85 hl (k := 7) rfl rfl (by decide) rfl (fun ls hl => ?_)
          refine lv_goto (tgt := 9) hx9 hb d4_nameFrom_88 (by decide) ?_
          exact ih o27.1 x6 (x7 + (1 : Int32)) o27.2 _ _ _ hH (lv_sub hl [3, 4, 5, 6, 1, 7, 0] rfl) e
def f4_nameFrom (F : Nat) (k1 : Nat) (k2 : Nat) (x3 : Int32) (x4 : Int32) (h : Hp) : Option (Hp) :=
  Option.bind (ce_it (fun (st : Int32 × Int32 × Int32 × Hp) => f4_nameFrom_b9 F k1 k2 x4 st.1 st.2.1 st.2.2.1 st.2.2.2) F (x3, (0 : Int32), (0 : Int32), h)) (fun o9 =>
    some o9)
set_option maxRecDepth 20000 in
theorem c4_nameFrom (l : Launch) (D : va_G) (ad : Nat → Nat) (cA : Nat → ClassId) (aK aV : Nat → Nat) (B0 : Nat) (hA : ce_Ad ad B0) (F : Nat) (k1 : Nat) (k2 : Nat) (x3 : Int32) (x4 : Int32) (hk1 : ce_isNet k1) (hk2 : ce_isEl k2) (h : Hp) (r : Hp) (e : f4_nameFrom F k1 k2 x3 x4 h = some r) : ce_Ct l D ad cA B0 (ce_St aK aV B0) y4_nameFrom b4_nameFrom 9 none 3 69 0 0 [.ref (ad 62), .ref (ad k1), .ref (ad k2), .int x3, .int x4] h none r := by
  refine ce_enter hA (by decide) rfl (Nat.le_of_ble_eq_true rfl) (fun p e0 s m below meth c ls C hH hl => ?_)
  have hl : lv_has ls 9 [(0, .ref (ad 62)), (1, .ref (ad k1)), (2, .ref (ad k2)), (3, .int x3), (4, .int x4)] := hl
  have hx := C.1
  have hb := C.2.1
  have e : Option.bind _ some = some r := (congrArg (fun z => Option.bind z some) e).trans rfl
  unfold f4_nameFrom at e
  refine lv_iload_n hx hb d4_nameFrom_0 rfl (lv_at hl 3 rfl) ?_
  refine lv_istore (lv' := [(5, .int x3), (0, .ref (ad 62)), (1, .ref (ad k1)), (2, .ref (ad k2)), (3, .int x3), (4, .int x4)]) hx hb d4_nameFrom_1 hl (by decide) rfl (fun ls hl => ?_)
  refine lv_iconst (v := (0 : Int32)) hx hb d4_nameFrom_3 (by decide) ?_
  refine lv_istore (lv' := [(6, .int (0 : Int32)), (5, .int x3), (0, .ref (ad 62)), (1, .ref (ad k1)), (2, .ref (ad k2)), (3, .int x3), (4, .int x4)]) hx hb d4_nameFrom_4 hl (by decide) rfl (fun ls hl => ?_)
  refine lv_iconst (v := (0 : Int32)) hx hb d4_nameFrom_6 (by decide) ?_
  refine lv_istore (lv' := [(7, .int (0 : Int32)), (6, .int (0 : Int32)), (5, .int x3), (0, .ref (ad 62)), (1, .ref (ad k1)), (2, .ref (ad k2)), (3, .int x3), (4, .int x4)]) hx hb d4_nameFrom_7 hl (by decide) rfl (fun ls hl => ?_)
  refine l4_nameFrom_9 C F k1 k2 x4 hk1 hk2 r _ (fun  h_9 H locs ls hH hl e => ?_) F x3 (0 : Int32) (0 : Int32) h _ _ _ hH (lv_sub hl [3, 4, 5, 7, 2, 1, 0] rfl) (ce_as e)
  try dsimp only at e
  exact ce_vret C (ce_sok aK aV B0) hH (Option.some.inj e) d4_nameFrom_91
end C4
