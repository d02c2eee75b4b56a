-- C11: functions and contracts, written by wip/whole/gen (mgen.py, walk.py, walk2.py) out of the bytecode
section C11
variable {p : Program} {l : Launch} {e0 : Env} {R : Room} {s : State} {m : MethodId} {args : Array Value} {below : List Frame} {meth : Method} {c : Code} {H : Heap} {locs : List Loc} {cells slots : Nat} {Q : State → Prop}
variable {cc : ByteArray} {pc nL : Nat} {ret : Option FieldType} {ls : Array Slot} {rest : List Value} {D : va_G} {ad : Nat → Nat} {cA : Nat → ClassId} {B0 : Nat} {X : va_W} {h : Hp} {aK aV : Nat → Nat}
abbrev b12_isAt : ByteArray := prog_14_method_6_code
def y12_isAt : MethodName := ⟨cn_12, "isAt", "(II)Z"⟩
theorem d12_isAt_0 : decode b12_isAt 0 = .ok (.aload_n 0, 1) := by decide +kernel
theorem d12_isAt_1 : decode b12_isAt 1 = .ok (.getfield 102, 3) := by decide +kernel
theorem d12_isAt_4 : decode b12_isAt 4 = .ok (.aload_n 0, 1) := by decide +kernel
theorem d12_isAt_5 : decode b12_isAt 5 = .ok (.getfield 95, 3) := by decide +kernel
theorem d12_isAt_8 : decode b12_isAt 8 = .ok (.if_icmp .ge 27, 3) := by decide +kernel
theorem d12_isAt_11 : decode b12_isAt 11 = .ok (.aload_n 0, 1) := by decide +kernel
theorem d12_isAt_12 : decode b12_isAt 12 = .ok (.getfield 19, 3) := by decide +kernel
theorem d12_isAt_15 : decode b12_isAt 15 = .ok (.aload_n 0, 1) := by decide +kernel
theorem d12_isAt_16 : decode b12_isAt 16 = .ok (.getfield 102, 3) := by decide +kernel
theorem d12_isAt_19 : decode b12_isAt 19 = .ok (.iaload, 1) := by decide +kernel
theorem d12_isAt_20 : decode b12_isAt 20 = .ok (.i2l, 1) := by decide +kernel
theorem d12_isAt_21 : decode b12_isAt 21 = .ok (.iload_n 1, 1) := by decide +kernel
theorem d12_isAt_22 : decode b12_isAt 22 = .ok (.i2l, 1) := by decide +kernel
theorem d12_isAt_23 : decode b12_isAt 23 = .ok (.iload_n 2, 1) := by decide +kernel
theorem d12_isAt_24 : decode b12_isAt 24 = .ok (.i2l, 1) := by decide +kernel
theorem d12_isAt_25 : decode b12_isAt 25 = .ok (.invokestatic 98, 3) := by decide +kernel
theorem d12_isAt_28 : decode b12_isAt 28 = .ok (.ifCond .eq 7, 3) := by decide +kernel
theorem d12_isAt_31 : decode b12_isAt 31 = .ok (.iconst 1, 1) := by decide +kernel
theorem d12_isAt_32 : decode b12_isAt 32 = .ok (.goto 4, 3) := by decide +kernel
theorem d12_isAt_35 : decode b12_isAt 35 = .ok (.iconst 0, 1) := by decide +kernel
theorem d12_isAt_36 : decode b12_isAt 36 = .ok (.ireturn, 1) := by decide +kernel
theorem fl_12_102 : Cond.fieldLink cn_12 102 (ft_12 7).1 (ft_12 7).2.1 (ft_12 7).2.2.1 ∈ ce_cm := ce_cm_of (List.mem_of_getElem? (i := 1128) (by decide +kernel)) (by decide +kernel)
theorem gf_12_102 (C : ce_Cx p s m args c meth cc nL ret cn_12 D ad cA B0 (ce_St aK aV B0)) (hH : ce_H D ad cA B0 X s h H locs) (hdg : decode cc pc = .ok (.getfield 102, 3)) (kk : W p l e0 R s m args below meth c H locs cells slots Q (F0 m (pc + 3) ls (.int (h 68 7) :: rest))) : W p l e0 R s m args below meth c H locs cells slots Q (F0 m pc ls (.ref (ad 68) :: rest)) := by
  exact ce_get C hH (k := 68) (ci := 12) (j := 7) (N := 43) (sj := none) (by decide) rfl rfl fw_12 (by decide) fl_12_102 rfl hdg kk
theorem pf_12_102 (C : ce_Cx p s m args c meth cc nL ret cn_12 D ad cA B0 (ce_St aK aV B0)) (hH : ce_H D ad cA B0 X s h H locs) {x : Int32} (hdg : decode cc pc = .ok (.putfield 102, 3)) (kk : ∀ (H1 : Heap) (locs1 : List Loc), ce_H D ad cA B0 X s (hp_up h 68 7 x) H1 locs1 → W p l e0 R s m args below meth c H1 locs1 cells slots Q (F0 m (pc + 3) ls rest)) : W p l e0 R s m args below meth c H locs cells slots Q (F0 m pc ls (.int x :: .ref (ad 68) :: rest)) := by
  exact ce_put C hH (k := 68) (ci := 12) (j := 7) (N := 43) (fy := fy_12) (sj := none) x (by decide) rfl rfl fw_12 fo_12 fn_12 (by decide) fl_12_102 rfl rfl (v := .int x) (by simp [ce_slot, upd]) rfl rfl hdg kk
theorem fl_12_19 : Cond.fieldLink cn_12 19 (ft_12 3).1 (ft_12 3).2.1 (ft_12 3).2.2.1 ∈ ce_cm := ce_cm_of (List.mem_of_getElem? (i := 1124) (by decide +kernel)) (by decide +kernel)
theorem gf_12_19 (C : ce_Cx p s m args c meth cc nL ret cn_12 D ad cA B0 (ce_St aK aV B0)) (hH : ce_H D ad cA B0 X s h H locs) (hdg : decode cc pc = .ok (.getfield 19, 3)) (kk : W p l e0 R s m args below meth c H locs cells slots Q (F0 m (pc + 3) ls (.ref (ad 72) :: rest))) : W p l e0 R s m args below meth c H locs cells slots Q (F0 m pc ls (.ref (ad 68) :: rest)) := by
  exact ce_get C hH (k := 68) (ci := 12) (j := 3) (N := 43) (sj := some (some 72)) (by decide) rfl rfl fw_12 (by decide) fl_12_19 rfl hdg kk
theorem lc_72 : 72 < 96 ∧ ce_lay 72 = .inl (0, 700) := ⟨by decide, rfl⟩
def f12_isAt (F : Nat) (x1 : Int32) (x2 : Int32) (h : Hp) : Option (Int32 × Hp) :=
  if (h 68 4) ≤ (h 68 7) then
    some ((0 : Int32), h)
  else
    if ce_in (h 68 7) 700 = true then
      Option.bind (f12_in F (((h 72 ((h 68 7)).toNatClampNeg)).toInt64) ((x1).toInt64) ((x2).toInt64) h) (fun o25 =>
        if o25.1 = 0 then
          some ((0 : Int32), o25.2)
        else
          some ((1 : Int32), o25.2))
    else none
set_option maxRecDepth 20000 in
theorem c12_isAt (l : Launch) (D : va_G) (ad : Nat → Nat) (cA : Nat → ClassId) (aK aV : Nat → Nat) (B0 : Nat) (hA : ce_Ad ad B0) (F : Nat) (x1 : Int32) (x2 : Int32)  (h : Hp) (r : Int32 × Hp) (e : f12_isAt F x1 x2 h = some r) : ce_Ct l D ad cA B0 (ce_St aK aV B0) y12_isAt b12_isAt 3 (some .boolean) 1 25 0 0 [.ref (ad 68), .int x1, .int x2] h (some (.int r.1)) r.2 := by
  refine ce_enter hA (by decide) rfl (Nat.le_of_ble_eq_true rfl) (fun p e0 s m below meth c ls C hH hl => ?_)
  have hl : lv_has ls 3 [(0, .ref (ad 68)), (1, .int x1), (2, .int x2)] := hl
  have hx := C.1
  have hb := C.2.1
  have e : Option.bind _ some = some r := (congrArg (fun z => Option.bind z some) e).trans rfl
  unfold f12_isAt at e
  refine lv_aload_n hx hb d12_isAt_0 rfl (lv_at hl 0 rfl) ?_
  refine gf_12_102 C hH d12_isAt_1 ?_
  refine lv_aload_n hx hb d12_isAt_4 rfl (lv_at hl 0 rfl) ?_
  refine gf_12_95 C hH d12_isAt_5 ?_
  refine lv_icmp_ge (tgt := 35) hx hb d12_isAt_8 (by decide) (fun hc8 => ?_) (fun hc8 => ?_)
  · have e := ce_if1 e hc8
    refine lv_iconst (v := (0 : Int32)) hx hb d12_isAt_35 (by decide) ?_
    exact ce_zretE C (ce_sok aK aV B0) hH (Or.inl rfl) e d12_isAt_36
  · have e := ce_if0 e hc8
    refine lv_aload_n hx hb d12_isAt_11 rfl (lv_at hl 0 rfl) ?_
    refine gf_12_19 C hH d12_isAt_12 ?_
    refine lv_aload_n hx hb d12_isAt_15 rfl (lv_at hl 0 rfl) ?_
    refine gf_12_102 C hH d12_isAt_16 ?_
    obtain ⟨hi19, e⟩ := ce_gd e
    refine ce_iald C hH lc_72.1 lc_72.2 (ce_in_vp hi19) d12_isAt_19 ?_
    refine lv_i2l (v := ((h 72 ((h 68 7)).toNatClampNeg)).toInt64) hx hb d12_isAt_20 rfl ?_
    refine lv_iload_n hx hb d12_isAt_21 rfl (lv_at hl 1 rfl) ?_
    refine lv_i2l (v := (x1).toInt64) hx hb d12_isAt_22 rfl ?_
    refine lv_iload_n hx hb d12_isAt_23 rfl (lv_at hl 2 rfl) ?_
    refine lv_i2l (v := (x2).toInt64) hx hb d12_isAt_24 rfl ?_
    obtain ⟨o25, eo25, e⟩ := ce_bd e
    refine ce_callS (As := [.long (((h 72 ((h 68 7)).toNatClampNeg)).toInt64), .long ((x1).toInt64), .long ((x2).toInt64)]) (rest := []) C (ce_sok aK aV B0) hH (c12_in l D ad cA aK aV B0 C.2.2.2.2.2.2.1 F (((h 72 ((h 68 7)).toNatClampNeg)).toInt64) ((x1).toInt64) ((x2).toInt64)  h o25 eo25) mc12_in ml_12_98 mt12_in mI_12 (n := 3) (by decide) rfl ⟨Nat.le_of_ble_eq_true rfl, Nat.le_of_ble_eq_true rfl⟩ ⟨Nat.le_of_ble_eq_true rfl, Nat.le_of_ble_eq_true rfl⟩ hl.1 rfl (Nat.le_of_ble_eq_true rfl) d12_isAt_25 (fun H locs hH => ?_)
    refine W.eq (g2 := F0 m 28 ls [.int o25.1]) rfl ?_
    refine lv_if_eq (tgt := 35) hx hb d12_isAt_28 (by decide) (fun hc28 => ?_) (fun hc28 => ?_)
    · have e := ce_if1 e hc28
      refine lv_iconst (v := (0 : Int32)) hx hb d12_isAt_35 (by decide) ?_
      exact ce_zretE C (ce_sok aK aV B0) hH (Or.inl rfl) e d12_isAt_36
    · have e := ce_if0 e hc28
      refine lv_iconst (v := (1 : Int32)) hx hb d12_isAt_31 (by decide) ?_
      refine lv_goto (tgt := 36) hx hb d12_isAt_32 (by decide) ?_
      exact ce_zretE C (ce_sok aK aV B0) hH (Or.inr rfl) e d12_isAt_36
abbrev b12_next : ByteArray := prog_14_method_7_code
def y12_next : MethodName := ⟨cn_12, "next", "()V"⟩
theorem d12_next_0 : decode b12_next 0 = .ok (.aload_n 0, 1) := by decide +kernel
theorem d12_next_1 : decode b12_next 1 = .ok (.bipush 32, 2) := by decide +kernel
theorem d12_next_3 : decode b12_next 3 = .ok (.bipush 32, 2) := by decide +kernel
theorem d12_next_5 : decode b12_next 5 = .ok (.invokevirtual 105, 3) := by decide +kernel
theorem d12_next_8 : decode b12_next 8 = .ok (.ifCond .ne 14, 3) := by decide +kernel
theorem d12_next_11 : decode b12_next 11 = .ok (.aload_n 0, 1) := by decide +kernel
theorem d12_next_12 : decode b12_next 12 = .ok (.bipush 10, 2) := by decide +kernel
theorem d12_next_14 : decode b12_next 14 = .ok (.bipush 10, 2) := by decide +kernel
theorem d12_next_16 : decode b12_next 16 = .ok (.invokevirtual 105, 3) := by decide +kernel
theorem d12_next_19 : decode b12_next 19 = .ok (.ifCond .eq 16, 3) := by decide +kernel
theorem d12_next_22 : decode b12_next 22 = .ok (.aload_n 0, 1) := by decide +kernel
theorem d12_next_23 : decode b12_next 23 = .ok (.dup, 1) := by decide +kernel
theorem d12_next_24 : decode b12_next 24 = .ok (.getfield 102, 3) := by decide +kernel
theorem d12_next_27 : decode b12_next 27 = .ok (.iconst 1, 1) := by decide +kernel
theorem d12_next_28 : decode b12_next 28 = .ok (.iadd, 1) := by decide +kernel
theorem d12_next_29 : decode b12_next 29 = .ok (.putfield 102, 3) := by decide +kernel
theorem d12_next_32 : decode b12_next 32 = .ok (.goto (-32), 3) := by decide +kernel
theorem d12_next_35 : decode b12_next 35 = .ok (.aload_n 0, 1) := by decide +kernel
theorem d12_next_36 : decode b12_next 36 = .ok (.aload_n 0, 1) := by decide +kernel
theorem d12_next_37 : decode b12_next 37 = .ok (.getfield 102, 3) := by decide +kernel
theorem d12_next_40 : decode b12_next 40 = .ok (.putfield 109, 3) := by decide +kernel
theorem d12_next_43 : decode b12_next 43 = .ok (.aload_n 0, 1) := by decide +kernel
theorem d12_next_44 : decode b12_next 44 = .ok (.iconst 0, 1) := by decide +kernel
theorem d12_next_45 : decode b12_next 45 = .ok (.putfield 112, 3) := by decide +kernel
theorem d12_next_48 : decode b12_next 48 = .ok (.aload_n 0, 1) := by decide +kernel
theorem d12_next_49 : decode b12_next 49 = .ok (.getfield 102, 3) := by decide +kernel
theorem d12_next_52 : decode b12_next 52 = .ok (.aload_n 0, 1) := by decide +kernel
theorem d12_next_53 : decode b12_next 53 = .ok (.getfield 95, 3) := by decide +kernel
theorem d12_next_56 : decode b12_next 56 = .ok (.if_icmp .ne 11, 3) := by decide +kernel
theorem d12_next_59 : decode b12_next 59 = .ok (.aload_n 0, 1) := by decide +kernel
theorem d12_next_60 : decode b12_next 60 = .ok (.iconst 0, 1) := by decide +kernel
theorem d12_next_61 : decode b12_next 61 = .ok (.putfield 115, 3) := by decide +kernel
theorem d12_next_64 : decode b12_next 64 = .ok (.goto 142, 3) := by decide +kernel
theorem d12_next_67 : decode b12_next 67 = .ok (.aload_n 0, 1) := by decide +kernel
theorem d12_next_68 : decode b12_next 68 = .ok (.bipush 97, 2) := by decide +kernel
theorem d12_next_70 : decode b12_next 70 = .ok (.bipush 122, 2) := by decide +kernel
theorem d12_next_72 : decode b12_next 72 = .ok (.invokevirtual 105, 3) := by decide +kernel
theorem d12_next_75 : decode b12_next 75 = .ok (.ifCond .eq 32, 3) := by decide +kernel
theorem d12_next_78 : decode b12_next 78 = .ok (.aload_n 0, 1) := by decide +kernel
theorem d12_next_79 : decode b12_next 79 = .ok (.iconst 1, 1) := by decide +kernel
theorem d12_next_80 : decode b12_next 80 = .ok (.putfield 115, 3) := by decide +kernel
theorem d12_next_83 : decode b12_next 83 = .ok (.aload_n 0, 1) := by decide +kernel
theorem d12_next_84 : decode b12_next 84 = .ok (.bipush 97, 2) := by decide +kernel
theorem d12_next_86 : decode b12_next 86 = .ok (.bipush 122, 2) := by decide +kernel
theorem d12_next_88 : decode b12_next 88 = .ok (.invokevirtual 105, 3) := by decide +kernel
theorem d12_next_91 : decode b12_next 91 = .ok (.ifCond .eq 115, 3) := by decide +kernel
theorem d12_next_94 : decode b12_next 94 = .ok (.aload_n 0, 1) := by decide +kernel
theorem d12_next_95 : decode b12_next 95 = .ok (.dup, 1) := by decide +kernel
theorem d12_next_96 : decode b12_next 96 = .ok (.getfield 102, 3) := by decide +kernel
theorem d12_next_99 : decode b12_next 99 = .ok (.iconst 1, 1) := by decide +kernel
theorem d12_next_100 : decode b12_next 100 = .ok (.iadd, 1) := by decide +kernel
theorem d12_next_101 : decode b12_next 101 = .ok (.putfield 102, 3) := by decide +kernel
theorem d12_next_104 : decode b12_next 104 = .ok (.goto (-21), 3) := by decide +kernel
theorem d12_next_107 : decode b12_next 107 = .ok (.aload_n 0, 1) := by decide +kernel
theorem d12_next_108 : decode b12_next 108 = .ok (.bipush 48, 2) := by decide +kernel
theorem d12_next_110 : decode b12_next 110 = .ok (.bipush 57, 2) := by decide +kernel
theorem d12_next_112 : decode b12_next 112 = .ok (.invokevirtual 105, 3) := by decide +kernel
theorem d12_next_115 : decode b12_next 115 = .ok (.ifCond .eq 61, 3) := by decide +kernel
theorem d12_next_118 : decode b12_next 118 = .ok (.aload_n 0, 1) := by decide +kernel
theorem d12_next_119 : decode b12_next 119 = .ok (.iconst 2, 1) := by decide +kernel
theorem d12_next_120 : decode b12_next 120 = .ok (.putfield 115, 3) := by decide +kernel
theorem d12_next_123 : decode b12_next 123 = .ok (.aload_n 0, 1) := by decide +kernel
theorem d12_next_124 : decode b12_next 124 = .ok (.bipush 48, 2) := by decide +kernel
theorem d12_next_126 : decode b12_next 126 = .ok (.bipush 57, 2) := by decide +kernel
theorem d12_next_128 : decode b12_next 128 = .ok (.invokevirtual 105, 3) := by decide +kernel
theorem d12_next_131 : decode b12_next 131 = .ok (.ifCond .eq 75, 3) := by decide +kernel
theorem d12_next_134 : decode b12_next 134 = .ok (.aload_n 0, 1) := by decide +kernel
theorem d12_next_135 : decode b12_next 135 = .ok (.ldc 118, 2) := by decide +kernel
theorem d12_next_137 : decode b12_next 137 = .ok (.bipush 10, 2) := by decide +kernel
theorem d12_next_139 : decode b12_next 139 = .ok (.aload_n 0, 1) := by decide +kernel
theorem d12_next_140 : decode b12_next 140 = .ok (.getfield 112, 3) := by decide +kernel
theorem d12_next_143 : decode b12_next 143 = .ok (.imul, 1) := by decide +kernel
theorem d12_next_144 : decode b12_next 144 = .ok (.aload_n 0, 1) := by decide +kernel
theorem d12_next_145 : decode b12_next 145 = .ok (.getfield 19, 3) := by decide +kernel
theorem d12_next_148 : decode b12_next 148 = .ok (.aload_n 0, 1) := by decide +kernel
theorem d12_next_149 : decode b12_next 149 = .ok (.getfield 102, 3) := by decide +kernel
theorem d12_next_152 : decode b12_next 152 = .ok (.iaload, 1) := by decide +kernel
theorem d12_next_153 : decode b12_next 153 = .ok (.iadd, 1) := by decide +kernel
theorem d12_next_154 : decode b12_next 154 = .ok (.bipush 48, 2) := by decide +kernel
theorem d12_next_156 : decode b12_next 156 = .ok (.isub, 1) := by decide +kernel
theorem d12_next_157 : decode b12_next 157 = .ok (.invokestatic 119, 3) := by decide +kernel
theorem d12_next_160 : decode b12_next 160 = .ok (.putfield 112, 3) := by decide +kernel
theorem d12_next_163 : decode b12_next 163 = .ok (.aload_n 0, 1) := by decide +kernel
theorem d12_next_164 : decode b12_next 164 = .ok (.dup, 1) := by decide +kernel
theorem d12_next_165 : decode b12_next 165 = .ok (.getfield 102, 3) := by decide +kernel
theorem d12_next_168 : decode b12_next 168 = .ok (.iconst 1, 1) := by decide +kernel
theorem d12_next_169 : decode b12_next 169 = .ok (.iadd, 1) := by decide +kernel
theorem d12_next_170 : decode b12_next 170 = .ok (.putfield 102, 3) := by decide +kernel
theorem d12_next_173 : decode b12_next 173 = .ok (.goto (-50), 3) := by decide +kernel
theorem d12_next_176 : decode b12_next 176 = .ok (.aload_n 0, 1) := by decide +kernel
theorem d12_next_177 : decode b12_next 177 = .ok (.aload_n 0, 1) := by decide +kernel
theorem d12_next_178 : decode b12_next 178 = .ok (.bipush 59, 2) := by decide +kernel
theorem d12_next_180 : decode b12_next 180 = .ok (.bipush 59, 2) := by decide +kernel
theorem d12_next_182 : decode b12_next 182 = .ok (.invokevirtual 105, 3) := by decide +kernel
theorem d12_next_185 : decode b12_next 185 = .ok (.ifCond .eq 7, 3) := by decide +kernel
theorem d12_next_188 : decode b12_next 188 = .ok (.iconst 3, 1) := by decide +kernel
theorem d12_next_189 : decode b12_next 189 = .ok (.goto 4, 3) := by decide +kernel
theorem d12_next_192 : decode b12_next 192 = .ok (.iconst 4, 1) := by decide +kernel
theorem d12_next_193 : decode b12_next 193 = .ok (.putfield 115, 3) := by decide +kernel
theorem d12_next_196 : decode b12_next 196 = .ok (.aload_n 0, 1) := by decide +kernel
theorem d12_next_197 : decode b12_next 197 = .ok (.dup, 1) := by decide +kernel
theorem d12_next_198 : decode b12_next 198 = .ok (.getfield 102, 3) := by decide +kernel
theorem d12_next_201 : decode b12_next 201 = .ok (.iconst 1, 1) := by decide +kernel
theorem d12_next_202 : decode b12_next 202 = .ok (.iadd, 1) := by decide +kernel
theorem d12_next_203 : decode b12_next 203 = .ok (.putfield 102, 3) := by decide +kernel
theorem d12_next_206 : decode b12_next 206 = .ok (.return_, 1) := by decide +kernel
theorem lo_68 : 68 < 96 ∧ ∃ sl, ce_lay 68 = .inr (12, sl) := ⟨by decide, _, rfl⟩
theorem mc12_isAt : Cond.code y12_isAt b12_isAt 3 (some .boolean) ∈ ce_cm := ce_cm_of (List.mem_of_getElem? (i := 1277) (by decide +kernel)) (by decide +kernel)
theorem ml_12_105 : Cond.methodLink cn_12 105 y12_isAt ∈ ce_cm := ce_cm_of (List.mem_of_getElem? (i := 1274) (by decide +kernel)) (by decide +kernel)
theorem mi12_isAt : Cond.instanceMethod y12_isAt ∈ ce_cm := ce_cm_of (List.mem_of_getElem? (i := 1276) (by decide +kernel)) (by decide +kernel)
theorem ms12_isAt : Cond.selects cn_12 y12_isAt y12_isAt ∈ ce_cm := ce_cm_of (List.mem_of_getElem? (i := 32) (by decide +kernel)) (by decide +kernel)
theorem fl_12_109 : Cond.fieldLink cn_12 109 (ft_12 8).1 (ft_12 8).2.1 (ft_12 8).2.2.1 ∈ ce_cm := ce_cm_of (List.mem_of_getElem? (i := 1129) (by decide +kernel)) (by decide +kernel)
theorem gf_12_109 (C : ce_Cx p s m args c meth cc nL ret cn_12 D ad cA B0 (ce_St aK aV B0)) (hH : ce_H D ad cA B0 X s h H locs) (hdg : decode cc pc = .ok (.getfield 109, 3)) (kk : W p l e0 R s m args below meth c H locs cells slots Q (F0 m (pc + 3) ls (.int (h 68 8) :: rest))) : W p l e0 R s m args below meth c H locs cells slots Q (F0 m pc ls (.ref (ad 68) :: rest)) := by
  exact ce_get C hH (k := 68) (ci := 12) (j := 8) (N := 43) (sj := none) (by decide) rfl rfl fw_12 (by decide) fl_12_109 rfl hdg kk
theorem pf_12_109 (C : ce_Cx p s m args c meth cc nL ret cn_12 D ad cA B0 (ce_St aK aV B0)) (hH : ce_H D ad cA B0 X s h H locs) {x : Int32} (hdg : decode cc pc = .ok (.putfield 109, 3)) (kk : ∀ (H1 : Heap) (locs1 : List Loc), ce_H D ad cA B0 X s (hp_up h 68 8 x) H1 locs1 → W p l e0 R s m args below meth c H1 locs1 cells slots Q (F0 m (pc + 3) ls rest)) : W p l e0 R s m args below meth c H locs cells slots Q (F0 m pc ls (.int x :: .ref (ad 68) :: rest)) := by
  exact ce_put C hH (k := 68) (ci := 12) (j := 8) (N := 43) (fy := fy_12) (sj := none) x (by decide) rfl rfl fw_12 fo_12 fn_12 (by decide) fl_12_109 rfl rfl (v := .int x) (by simp [ce_slot, upd]) rfl rfl hdg kk
theorem fl_12_112 : Cond.fieldLink cn_12 112 (ft_12 10).1 (ft_12 10).2.1 (ft_12 10).2.2.1 ∈ ce_cm := ce_cm_of (List.mem_of_getElem? (i := 1131) (by decide +kernel)) (by decide +kernel)
theorem gf_12_112 (C : ce_Cx p s m args c meth cc nL ret cn_12 D ad cA B0 (ce_St aK aV B0)) (hH : ce_H D ad cA B0 X s h H locs) (hdg : decode cc pc = .ok (.getfield 112, 3)) (kk : W p l e0 R s m args below meth c H locs cells slots Q (F0 m (pc + 3) ls (.int (h 68 10) :: rest))) : W p l e0 R s m args below meth c H locs cells slots Q (F0 m pc ls (.ref (ad 68) :: rest)) := by
  exact ce_get C hH (k := 68) (ci := 12) (j := 10) (N := 43) (sj := none) (by decide) rfl rfl fw_12 (by decide) fl_12_112 rfl hdg kk
theorem pf_12_112 (C : ce_Cx p s m args c meth cc nL ret cn_12 D ad cA B0 (ce_St aK aV B0)) (hH : ce_H D ad cA B0 X s h H locs) {x : Int32} (hdg : decode cc pc = .ok (.putfield 112, 3)) (kk : ∀ (H1 : Heap) (locs1 : List Loc), ce_H D ad cA B0 X s (hp_up h 68 10 x) H1 locs1 → W p l e0 R s m args below meth c H1 locs1 cells slots Q (F0 m (pc + 3) ls rest)) : W p l e0 R s m args below meth c H locs cells slots Q (F0 m pc ls (.int x :: .ref (ad 68) :: rest)) := by
  exact ce_put C hH (k := 68) (ci := 12) (j := 10) (N := 43) (fy := fy_12) (sj := none) x (by decide) rfl rfl fw_12 fo_12 fn_12 (by decide) fl_12_112 rfl rfl (v := .int x) (by simp [ce_slot, upd]) rfl rfl hdg kk
theorem fl_12_115 : Cond.fieldLink cn_12 115 (ft_12 9).1 (ft_12 9).2.1 (ft_12 9).2.2.1 ∈ ce_cm := ce_cm_of (List.mem_of_getElem? (i := 1130) (by decide +kernel)) (by decide +kernel)
theorem gf_12_115 (C : ce_Cx p s m args c meth cc nL ret cn_12 D ad cA B0 (ce_St aK aV B0)) (hH : ce_H D ad cA B0 X s h H locs) (hdg : decode cc pc = .ok (.getfield 115, 3)) (kk : W p l e0 R s m args below meth c H locs cells slots Q (F0 m (pc + 3) ls (.int (h 68 9) :: rest))) : W p l e0 R s m args below meth c H locs cells slots Q (F0 m pc ls (.ref (ad 68) :: rest)) := by
  exact ce_get C hH (k := 68) (ci := 12) (j := 9) (N := 43) (sj := none) (by decide) rfl rfl fw_12 (by decide) fl_12_115 rfl hdg kk
theorem pf_12_115 (C : ce_Cx p s m args c meth cc nL ret cn_12 D ad cA B0 (ce_St aK aV B0)) (hH : ce_H D ad cA B0 X s h H locs) {x : Int32} (hdg : decode cc pc = .ok (.putfield 115, 3)) (kk : ∀ (H1 : Heap) (locs1 : List Loc), ce_H D ad cA B0 X s (hp_up h 68 9 x) H1 locs1 → W p l e0 R s m args below meth c H1 locs1 cells slots Q (F0 m (pc + 3) ls rest)) : W p l e0 R s m args below meth c H locs cells slots Q (F0 m pc ls (.int x :: .ref (ad 68) :: rest)) := by
  exact ce_put C hH (k := 68) (ci := 12) (j := 9) (N := 43) (fy := fy_12) (sj := none) x (by decide) rfl rfl fw_12 fo_12 fn_12 (by decide) fl_12_115 rfl rfl (v := .int x) (by simp [ce_slot, upd]) rfl rfl hdg kk
theorem mk_12_118 : Cond.constant cn_12 118 (99999) ∈ ce_cm := ce_cm_of (List.mem_of_getElem? (i := 1278) (by decide +kernel)) (by decide +kernel)
theorem ml_12_119 : Cond.methodLink cn_12 119 Lib.Math.min.name ∈ ce_cm := ce_cm_of (List.mem_of_getElem? (i := 1279) (by decide +kernel)) (by decide +kernel)
def f12_next_b0 (F : Nat)  (h : Hp) : Option ((Hp) ⊕ (Hp)) :=
  Option.bind (f12_isAt F (32 : Int32) (32 : Int32) h) (fun o5 =>
    if o5.1 = 0 then
      Option.bind (f12_isAt F (10 : Int32) (10 : Int32) o5.2) (fun o16 =>
        if o16.1 = 0 then
          some (.inr o16.2)
        else
          ce_nm (hp_up o16.2 68 7 ((o16.2 68 7) + (1 : Int32))) (fun h_29 =>
            some (.inl h_29)))
    else
      ce_nm (hp_up o5.2 68 7 ((o5.2 68 7) + (1 : Int32))) (fun h_29 =>
        some (.inl h_29)))
set_option maxRecDepth 20000 in
theorem l12_next_0 (C : ce_Cx p s m args c meth b12_next 1 none cn_12 D ad cA B0 (ce_St aK aV B0)) (F : Nat)   (r : Hp) (g : (Hp) → Option (Hp)) (hx : ∀  (h : Hp) (H : Heap) (locs : List Loc) (ls : Array Slot), ce_H D ad cA B0 [] s h H locs → lv_has ls 1 [(0, .ref (ad 68))] → g h = some r → W p l e0 { frames := 2, cells := 0, slots := 0, locals := 47 } s m args below meth c H locs 0 0 (MQ below (ce_Q D ad cA B0 (ce_St aK aV B0) none r) args s 0 0 (fun q => B0 ≤ q)) (F0 m 35 ls [])) : ∀ (n : Nat)  (h : Hp) (H : Heap) (locs : List Loc) (ls : Array Slot), ce_H D ad cA B0 [] s h H locs → lv_has ls 1 [(0, .ref (ad 68))] → Option.bind (ce_it (fun (st : Hp) => f12_next_b0 F  st) n h) g = some r → W p l e0 { frames := 2, cells := 0, slots := 0, locals := 47 } s m args below meth c H locs 0 0 (MQ below (ce_Q D ad cA B0 (ce_St aK aV B0) none r) args s 0 0 (fun q => B0 ≤ q)) (F0 m 0 ls []) := by
  intro n
  induction n with
  | zero =>
    intro  h H locs ls hH hl e
    exact absurd e (fun z => by cases z)
  | succ n ih =>
    intro  h H locs ls hH hl e
    have hx9 := C.1
    have hb := C.2.1
    have e : Option.bind (f12_next_b0 F   h) _ = some r := ce_it_bd e
    unfold f12_next_b0 at e
    refine lv_aload_n hx9 hb d12_next_0 rfl (lv_at hl 0 rfl) ?_
    refine lv_bipush (v := (32 : Int32)) hx9 hb d12_next_1 (by decide) ?_
    refine lv_bipush (v := (32 : Int32)) hx9 hb d12_next_3 (by decide) ?_
    obtain ⟨o5, eo5, e⟩ := ce_bd e
    refine ce_callV (As := [.int (32 : Int32), .int (32 : Int32)]) (rest := []) C (ce_sok aK aV B0) hH (c12_isAt l D ad cA aK aV B0 C.2.2.2.2.2.2.1 F (32 : Int32) (32 : Int32)  h o5 eo5) lo_68.1 lo_68.2.choose_spec rfl rfl mc12_isAt ml_12_105 mi12_isAt ms12_isAt mI_12 (n := 2) (by decide) rfl ⟨Nat.le_of_ble_eq_true rfl, Nat.le_of_ble_eq_true rfl⟩ ⟨Nat.le_of_ble_eq_true rfl, Nat.le_of_ble_eq_true rfl⟩ hl.1 rfl (Nat.le_of_ble_eq_true rfl) d12_next_5 (fun H locs hH => ?_)
    refine W.eq (g2 := F0 m 8 ls [.int o5.1]) rfl ?_
    refine lv_if_ne (tgt := 22) hx9 hb d12_next_8 (by decide) (fun hc8 => ?_) (fun hc8 => ?_)
    · have e := ce_if0 e hc8
      refine lv_aload_n hx9 hb d12_next_22 rfl (lv_at hl 0 rfl) ?_
      refine lv_dup hx9 hb d12_next_23 rfl ?_
      refine gf_12_102 C hH d12_next_24 ?_
      refine lv_iconst (v := (1 : Int32)) hx9 hb d12_next_27 (by decide) ?_
      refine lv_iadd hx9 hb d12_next_28 ?_
      refine pf_12_102 C hH d12_next_29 (fun H locs hH => ?_)
      obtain ⟨h_29, eh_29, e⟩ := ce_nmE e
      rw [← eh_29] at hH
      refine lv_goto (tgt := 0) hx9 hb d12_next_32 (by decide) ?_
      exact ih  h_29 _ _ _ hH (lv_sub hl [0] rfl) e
    · have e := ce_if1 e hc8
      refine lv_aload_n hx9 hb d12_next_11 rfl (lv_at hl 0 rfl) ?_
      refine lv_bipush (v := (10 : Int32)) hx9 hb d12_next_12 (by decide) ?_
      refine lv_bipush (v := (10 : Int32)) hx9 hb d12_next_14 (by decide) ?_
      obtain ⟨o16, eo16, e⟩ := ce_bd e
      refine ce_callV (As := [.int (10 : Int32), .int (10 : Int32)]) (rest := []) C (ce_sok aK aV B0) hH (c12_isAt l D ad cA aK aV B0 C.2.2.2.2.2.2.1 F (10 : Int32) (10 : Int32)  o5.2 o16 eo16) lo_68.1 lo_68.2.choose_spec rfl rfl mc12_isAt ml_12_105 mi12_isAt ms12_isAt mI_12 (n := 2) (by decide) rfl ⟨Nat.le_of_ble_eq_true rfl, Nat.le_of_ble_eq_true rfl⟩ ⟨Nat.le_of_ble_eq_true rfl, Nat.le_of_ble_eq_true rfl⟩ hl.1 rfl (Nat.le_of_ble_eq_true rfl) d12_next_16 (fun H locs hH => ?_)
      refine W.eq (g2 := F0 m 19 ls [.int o16.1]) rfl ?_
      refine lv_if_eq (tgt := 35) hx9 hb d12_next_19 (by decide) (fun hc19 => ?_) (fun hc19 => ?_)
      · have e := ce_if1 e hc19
        exact hx  o16.2 _ _ _ hH (lv_sub hl [0] rfl) e
      · have e := ce_if0 e hc19
        refine lv_aload_n hx9 hb d12_next_22 rfl (lv_at hl 0 rfl) ?_
        refine lv_dup hx9 hb d12_next_23 rfl ?_
        refine gf_12_102 C hH d12_next_24 ?_
        refine lv_iconst (v := (1 : Int32)) hx9 hb d12_next_27 (by decide) ?_
        refine lv_iadd hx9 hb d12_next_28 ?_
        refine pf_12_102 C hH d12_next_29 (fun H locs hH => ?_)
        obtain ⟨h_29, eh_29, e⟩ := ce_nmE e
        rw [← eh_29] at hH
        refine lv_goto (tgt := 0) hx9 hb d12_next_32 (by decide) ?_
        exact ih  h_29 _ _ _ hH (lv_sub hl [0] rfl) e
def f12_next_b123 (F : Nat)  (h : Hp) : Option ((Hp) ⊕ (Hp)) :=
  Option.bind (f12_isAt F (48 : Int32) (57 : Int32) h) (fun o128 =>
    if o128.1 = 0 then
      some (.inr o128.2)
    else
      if ce_in (o128.2 68 7) 700 = true then
        ce_nm (hp_up o128.2 68 10 (if ((((10 : Int32) * (o128.2 68 10)) + (o128.2 72 ((o128.2 68 7)).toNatClampNeg)) - (48 : Int32)) < (99999 : Int32) then ((((10 : Int32) * (o128.2 68 10)) + (o128.2 72 ((o128.2 68 7)).toNatClampNeg)) - (48 : Int32)) else (99999 : Int32))) (fun h_160 =>
          ce_nm (hp_up h_160 68 7 ((h_160 68 7) + (1 : Int32))) (fun h_170 =>
            some (.inl h_170)))
      else none)
set_option maxRecDepth 20000 in
theorem l12_next_123 (C : ce_Cx p s m args c meth b12_next 1 none cn_12 D ad cA B0 (ce_St aK aV B0)) (F : Nat)   (r : Hp) (g : (Hp) → Option (Hp)) (hx : ∀  (h : Hp) (H : Heap) (locs : List Loc) (ls : Array Slot), ce_H D ad cA B0 [] s h H locs → lv_has ls 1 [] → g h = some r → W p l e0 { frames := 2, cells := 0, slots := 0, locals := 47 } s m args below meth c H locs 0 0 (MQ below (ce_Q D ad cA B0 (ce_St aK aV B0) none r) args s 0 0 (fun q => B0 ≤ q)) (F0 m 206 ls [])) : ∀ (n : Nat)  (h : Hp) (H : Heap) (locs : List Loc) (ls : Array Slot), ce_H D ad cA B0 [] s h H locs → lv_has ls 1 [(0, .ref (ad 68))] → Option.bind (ce_it (fun (st : Hp) => f12_next_b123 F  st) n h) g = some r → W p l e0 { frames := 2, cells := 0, slots := 0, locals := 47 } s m args below meth c H locs 0 0 (MQ below (ce_Q D ad cA B0 (ce_St aK aV B0) none r) args s 0 0 (fun q => B0 ≤ q)) (F0 m 123 ls []) := by
  intro n
  induction n with
  | zero =>
    intro  h H locs ls hH hl e
    exact absurd e (fun z => by cases z)
  | succ n ih =>
    intro  h H locs ls hH hl e
    have hx9 := C.1
    have hb := C.2.1
    have e : Option.bind (f12_next_b123 F   h) _ = some r := ce_it_bd e
    unfold f12_next_b123 at e
    refine lv_aload_n hx9 hb d12_next_123 rfl (lv_at hl 0 rfl) ?_
    refine lv_bipush (v := (48 : Int32)) hx9 hb d12_next_124 (by decide) ?_
    refine lv_bipush (v := (57 : Int32)) hx9 hb d12_next_126 (by decide) ?_
    obtain ⟨o128, eo128, e⟩ := ce_bd e
    refine ce_callV (As := [.int (48 : Int32), .int (57 : Int32)]) (rest := []) C (ce_sok aK aV B0) hH (c12_isAt l D ad cA aK aV B0 C.2.2.2.2.2.2.1 F (48 : Int32) (57 : Int32)  h o128 eo128) lo_68.1 lo_68.2.choose_spec rfl rfl mc12_isAt ml_12_105 mi12_isAt ms12_isAt mI_12 (n := 2) (by decide) rfl ⟨Nat.le_of_ble_eq_true rfl, Nat.le_of_ble_eq_true rfl⟩ ⟨Nat.le_of_ble_eq_true rfl, Nat.le_of_ble_eq_true rfl⟩ hl.1 rfl (Nat.le_of_ble_eq_true rfl) d12_next_128 (fun H locs hH => ?_)
    refine W.eq (g2 := F0 m 131 ls [.int o128.1]) rfl ?_
    refine lv_if_eq (tgt := 206) hx9 hb d12_next_131 (by decide) (fun hc131 => ?_) (fun hc131 => ?_)
    · have e := ce_if1 e hc131
      exact hx  o128.2 _ _ _ hH (lv_sub hl [] rfl) e
    · have e := ce_if0 e hc131
      refine lv_aload_n hx9 hb d12_next_134 rfl (lv_at hl 0 rfl) ?_
      refine lv_ldc (v := (99999 : Int32)) hx9 hb C.2.2.2.1 (C.2.2.2.2.1 _ mk_12_118) d12_next_135 ?_
      refine lv_bipush (v := (10 : Int32)) hx9 hb d12_next_137 (by decide) ?_
      refine lv_aload_n hx9 hb d12_next_139 rfl (lv_at hl 0 rfl) ?_
      refine gf_12_112 C hH d12_next_140 ?_
      refine lv_imul hx9 hb d12_next_143 ?_
      refine lv_aload_n hx9 hb d12_next_144 rfl (lv_at hl 0 rfl) ?_
      refine gf_12_19 C hH d12_next_145 ?_
      refine lv_aload_n hx9 hb d12_next_148 rfl (lv_at hl 0 rfl) ?_
      refine gf_12_102 C hH d12_next_149 ?_
      obtain ⟨hi152, e⟩ := ce_gd e
      refine ce_iald C hH lc_72.1 lc_72.2 (ce_in_vp hi152) d12_next_152 ?_
      refine lv_iadd hx9 hb d12_next_153 ?_
      refine lv_bipush (v := (48 : Int32)) hx9 hb d12_next_154 (by decide) ?_
      refine lv_isub hx9 hb d12_next_156 ?_
      refine va_mmin hx9 hb (C.2.2.1.trans hl.1.symm) C.2.2.2.1 (C.2.2.2.2.1 _ ml_12_119) (C.2.2.2.2.1 _ mt_Mmin) (C.2.2.2.2.1 _ mI_M) (C.2.2.2.2.1 _ mc_Mmin) (Nat.le_of_ble_eq_true rfl) (Nat.le_of_ble_eq_true rfl) (Nat.le_of_ble_eq_true rfl) (Nat.le_of_ble_eq_true rfl) d12_next_157 ?_
      refine pf_12_112 C hH d12_next_160 (fun H locs hH => ?_)
      obtain ⟨h_160, eh_160, e⟩ := ce_nmE e
      rw [← eh_160] at hH
      refine lv_aload_n hx9 hb d12_next_163 rfl (lv_at hl 0 rfl) ?_
      refine lv_dup hx9 hb d12_next_164 rfl ?_
      refine gf_12_102 C hH d12_next_165 ?_
      refine lv_iconst (v := (1 : Int32)) hx9 hb d12_next_168 (by decide) ?_
      refine lv_iadd hx9 hb d12_next_169 ?_
      refine pf_12_102 C hH d12_next_170 (fun H locs hH => ?_)
      obtain ⟨h_170, eh_170, e⟩ := ce_nmE e
      rw [← eh_170] at hH
      refine lv_goto (tgt := 123) hx9 hb d12_next_173 (by decide) ?_
      exact ih  h_170 _ _ _ hH (lv_sub hl [0] rfl) e
def f12_next_b83 (F : Nat)  (h : Hp) : Option ((Hp) ⊕ (Hp)) :=
  Option.bind (f12_isAt F (97 : Int32) (122 : Int32) h) (fun o88 =>
    if o88.1 = 0 then
      some (.inr o88.2)
    else
      ce_nm (hp_up o88.2 68 7 ((o88.2 68 7) + (1 : Int32))) (fun h_101 =>
        some (.inl h_101)))
set_option maxRecDepth 20000 in
theorem l12_next_83 (C : ce_Cx p s m args c meth b12_next 1 none cn_12 D ad cA B0 (ce_St aK aV B0)) (F : Nat)   (r : Hp) (g : (Hp) → Option (Hp)) (hx : ∀  (h : Hp) (H : Heap) (locs : List Loc) (ls : Array Slot), ce_H D ad cA B0 [] s h H locs → lv_has ls 1 [] → g h = some r → W p l e0 { frames := 2, cells := 0, slots := 0, locals := 47 } s m args below meth c H locs 0 0 (MQ below (ce_Q D ad cA B0 (ce_St aK aV B0) none r) args s 0 0 (fun q => B0 ≤ q)) (F0 m 206 ls [])) : ∀ (n : Nat)  (h : Hp) (H : Heap) (locs : List Loc) (ls : Array Slot), ce_H D ad cA B0 [] s h H locs → lv_has ls 1 [(0, .ref (ad 68))] → Option.bind (ce_it (fun (st : Hp) => f12_next_b83 F  st) n h) g = some r → W p l e0 { frames := 2, cells := 0, slots := 0, locals := 47 } s m args below meth c H locs 0 0 (MQ below (ce_Q D ad cA B0 (ce_St aK aV B0) none r) args s 0 0 (fun q => B0 ≤ q)) (F0 m 83 ls []) := by
  intro n
  induction n with
  | zero =>
    intro  h H locs ls hH hl e
    exact absurd e (fun z => by cases z)
  | succ n ih =>
    intro  h H locs ls hH hl e
    have hx9 := C.1
    have hb := C.2.1
    have e : Option.bind (f12_next_b83 F   h) _ = some r := ce_it_bd e
    unfold f12_next_b83 at e
    refine lv_aload_n hx9 hb d12_next_83 rfl (lv_at hl 0 rfl) ?_
    refine lv_bipush (v := (97 : Int32)) hx9 hb d12_next_84 (by decide) ?_
    refine lv_bipush (v := (122 : Int32)) hx9 hb d12_next_86 (by decide) ?_
    obtain ⟨o88, eo88, e⟩ := ce_bd e
    refine ce_callV (As := [.int (97 : Int32), .int (122 : Int32)]) (rest := []) C (ce_sok aK aV B0) hH (c12_isAt l D ad cA aK aV B0 C.2.2.2.2.2.2.1 F (97 : Int32) (122 : Int32)  h o88 eo88) lo_68.1 lo_68.2.choose_spec rfl rfl mc12_isAt ml_12_105 mi12_isAt ms12_isAt mI_12 (n := 2) (by decide) rfl ⟨Nat.le_of_ble_eq_true rfl, Nat.le_of_ble_eq_true rfl⟩ ⟨Nat.le_of_ble_eq_true rfl, Nat.le_of_ble_eq_true rfl⟩ hl.1 rfl (Nat.le_of_ble_eq_true rfl) d12_next_88 (fun H locs hH => ?_)
    refine W.eq (g2 := F0 m 91 ls [.int o88.1]) rfl ?_
    refine lv_if_eq (tgt := 206) hx9 hb d12_next_91 (by decide) (fun hc91 => ?_) (fun hc91 => ?_)
    · have e := ce_if1 e hc91
      exact hx  o88.2 _ _ _ hH (lv_sub hl [] rfl) e
    · have e := ce_if0 e hc91
      refine lv_aload_n hx9 hb d12_next_94 rfl (lv_at hl 0 rfl) ?_
      refine lv_dup hx9 hb d12_next_95 rfl ?_
      refine gf_12_102 C hH d12_next_96 ?_
      refine lv_iconst (v := (1 : Int32)) hx9 hb d12_next_99 (by decide) ?_
      refine lv_iadd hx9 hb d12_next_100 ?_
      refine pf_12_102 C hH d12_next_101 (fun H locs hH => ?_)
      obtain ⟨h_101, eh_101, e⟩ := ce_nmE e
      rw [← eh_101] at hH
      refine lv_goto (tgt := 83) hx9 hb d12_next_104 (by decide) ?_
      exact ih  h_101 _ _ _ hH (lv_sub hl [0] rfl) e
def f12_next (F : Nat)  (h : Hp) : Option (Hp) :=
  Option.bind (ce_it (fun (st : Hp) => f12_next_b0 F  st) F h) (fun o0 =>
    ce_nm (hp_up o0 68 8 (o0 68 7)) (fun h_40 =>
      ce_nm (hp_up h_40 68 10 (0 : Int32)) (fun h_45 =>
        if (h_45 68 7) = (h_45 68 4) then
          ce_nm (hp_up h_45 68 9 (0 : Int32)) (fun h_61 =>
            some h_61)
        else
          Option.bind (f12_isAt F (97 : Int32) (122 : Int32) h_45) (fun o72 =>
            if o72.1 = 0 then
              Option.bind (f12_isAt F (48 : Int32) (57 : Int32) o72.2) (fun o112 =>
                if o112.1 = 0 then
                  Option.bind (f12_isAt F (59 : Int32) (59 : Int32) o112.2) (fun o182 =>
                    if o182.1 = 0 then
                      ce_nm (hp_up o182.2 68 9 (4 : Int32)) (fun h_193 =>
                        ce_nm (hp_up h_193 68 7 ((h_193 68 7) + (1 : Int32))) (fun h_203 =>
                          some h_203))
                    else
                      ce_nm (hp_up o182.2 68 9 (3 : Int32)) (fun h_193 =>
                        ce_nm (hp_up h_193 68 7 ((h_193 68 7) + (1 : Int32))) (fun h_203 =>
                          some h_203)))
                else
                  ce_nm (hp_up o112.2 68 9 (2 : Int32)) (fun h_120 =>
                    Option.bind (ce_it (fun (st : Hp) => f12_next_b123 F  st) F h_120) (fun o123 =>
                      some o123)))
            else
              ce_nm (hp_up o72.2 68 9 (1 : Int32)) (fun h_80 =>
                Option.bind (ce_it (fun (st : Hp) => f12_next_b83 F  st) F h_80) (fun o83 =>
                  some o83))))))
set_option maxRecDepth 20000 in
theorem c12_next (l : Launch) (D : va_G) (ad : Nat → Nat) (cA : Nat → ClassId) (aK aV : Nat → Nat) (B0 : Nat) (hA : ce_Ad ad B0) (F : Nat)   (h : Hp) (r : Hp) (e : f12_next F  h = some r) : ce_Ct l D ad cA B0 (ce_St aK aV B0) y12_next b12_next 1 none 2 47 0 0 [.ref (ad 68)] h none r := by
  refine ce_enter hA (by decide) rfl (Nat.le_of_ble_eq_true rfl) (fun p e0 s m below meth c ls C hH hl => ?_)
  have hl : lv_has ls 1 [(0, .ref (ad 68))] := hl
  have hx := C.1
  have hb := C.2.1
  have e : Option.bind _ some = some r := (congrArg (fun z => Option.bind z some) e).trans rfl
  unfold f12_next at e
  refine l12_next_0 C F   r _ (fun  h_0 H locs ls hH hl e => ?_) F  h _ _ _ hH (lv_sub hl [0] rfl) (ce_as e)
  try dsimp only at e
  refine lv_aload_n hx hb d12_next_35 rfl (lv_at hl 0 rfl) ?_
  refine lv_aload_n hx hb d12_next_36 rfl (lv_at hl 0 rfl) ?_
  refine gf_12_102 C hH d12_next_37 ?_
  refine pf_12_109 C hH d12_next_40 (fun H locs hH => ?_)
  obtain ⟨h_40, eh_40, e⟩ := ce_nmE e
  rw [← eh_40] at hH
  refine lv_aload_n hx hb d12_next_43 rfl (lv_at hl 0 rfl) ?_
  refine lv_iconst (v := (0 : Int32)) hx hb d12_next_44 (by decide) ?_
  refine pf_12_112 C hH d12_next_45 (fun H locs hH => ?_)
  obtain ⟨h_45, eh_45, e⟩ := ce_nmE e
  rw [← eh_45] at hH
  refine lv_aload_n hx hb d12_next_48 rfl (lv_at hl 0 rfl) ?_
  refine gf_12_102 C hH d12_next_49 ?_
  refine lv_aload_n hx hb d12_next_52 rfl (lv_at hl 0 rfl) ?_
  refine gf_12_95 C hH d12_next_53 ?_
  refine lv_icmp_ne (tgt := 67) hx hb d12_next_56 (by decide) (fun hc56 => ?_) (fun hc56 => ?_)
  · have e := ce_if0 e hc56
    refine lv_aload_n hx hb d12_next_67 rfl (lv_at hl 0 rfl) ?_
    refine lv_bipush (v := (97 : Int32)) hx hb d12_next_68 (by decide) ?_
    refine lv_bipush (v := (122 : Int32)) hx hb d12_next_70 (by decide) ?_
    obtain ⟨o72, eo72, e⟩ := ce_bd e
    refine ce_callV (As := [.int (97 : Int32), .int (122 : Int32)]) (rest := []) C (ce_sok aK aV B0) hH (c12_isAt l D ad cA aK aV B0 C.2.2.2.2.2.2.1 F (97 : Int32) (122 : Int32)  h_45 o72 eo72) lo_68.1 lo_68.2.choose_spec rfl rfl mc12_isAt ml_12_105 mi12_isAt ms12_isAt mI_12 (n := 2) (by decide) rfl ⟨Nat.le_of_ble_eq_true rfl, Nat.le_of_ble_eq_true rfl⟩ ⟨Nat.le_of_ble_eq_true rfl, Nat.le_of_ble_eq_true rfl⟩ hl.1 rfl (Nat.le_of_ble_eq_true rfl) d12_next_72 (fun H locs hH => ?_)
    refine W.eq (g2 := F0 m 75 ls [.int o72.1]) rfl ?_
    refine lv_if_eq (tgt := 107) hx hb d12_next_75 (by decide) (fun hc75 => ?_) (fun hc75 => ?_)
    · have e := ce_if1 e hc75
      refine lv_aload_n hx hb d12_next_107 rfl (lv_at hl 0 rfl) ?_
      refine lv_bipush (v := (48 : Int32)) hx hb d12_next_108 (by decide) ?_
      refine lv_bipush (v := (57 : Int32)) hx hb d12_next_110 (by decide) ?_
      obtain ⟨o112, eo112, e⟩ := ce_bd e
      refine ce_callV (As := [.int (48 : Int32), .int (57 : Int32)]) (rest := []) C (ce_sok aK aV B0) hH (c12_isAt l D ad cA aK aV B0 C.2.2.2.2.2.2.1 F (48 : Int32) (57 : Int32)  o72.2 o112 eo112) lo_68.1 lo_68.2.choose_spec rfl rfl mc12_isAt ml_12_105 mi12_isAt ms12_isAt mI_12 (n := 2) (by decide) rfl ⟨Nat.le_of_ble_eq_true rfl, Nat.le_of_ble_eq_true rfl⟩ ⟨Nat.le_of_ble_eq_true rfl, Nat.le_of_ble_eq_true rfl⟩ hl.1 rfl (Nat.le_of_ble_eq_true rfl) d12_next_112 (fun H locs hH => ?_)
      refine W.eq (g2 := F0 m 115 ls [.int o112.1]) rfl ?_
      refine lv_if_eq (tgt := 176) hx hb d12_next_115 (by decide) (fun hc115 => ?_) (fun hc115 => ?_)
      · have e := ce_if1 e hc115
        refine lv_aload_n hx hb d12_next_176 rfl (lv_at hl 0 rfl) ?_
        refine lv_aload_n hx hb d12_next_177 rfl (lv_at hl 0 rfl) ?_
        refine lv_bipush (v := (59 : Int32)) hx hb d12_next_178 (by decide) ?_
        refine lv_bipush (v := (59 : Int32)) hx hb d12_next_180 (by decide) ?_
        obtain ⟨o182, eo182, e⟩ := ce_bd e
        refine ce_callV (As := [.int (59 : Int32), .int (59 : Int32)]) (rest := [.ref (ad 68)]) C (ce_sok aK aV B0) hH (c12_isAt l D ad cA aK aV B0 C.2.2.2.2.2.2.1 F (59 : Int32) (59 : Int32)  o112.2 o182 eo182) lo_68.1 lo_68.2.choose_spec rfl rfl mc12_isAt ml_12_105 mi12_isAt ms12_isAt mI_12 (n := 2) (by decide) rfl ⟨Nat.le_of_ble_eq_true rfl, Nat.le_of_ble_eq_true rfl⟩ ⟨Nat.le_of_ble_eq_true rfl, Nat.le_of_ble_eq_true rfl⟩ hl.1 rfl (Nat.le_of_ble_eq_true rfl) d12_next_182 (fun H locs hH => ?_)
        refine W.eq (g2 := F0 m 185 ls [.int o182.1, .ref (ad 68)]) rfl ?_
        refine lv_if_eq (tgt := 192) hx hb d12_next_185 (by decide) (fun hc185 => ?_) (fun hc185 => ?_)
        · have e := ce_if1 e hc185
          refine lv_iconst (v := (4 : Int32)) hx hb d12_next_192 (by decide) ?_
          refine pf_12_115 C hH d12_next_193 (fun H locs hH => ?_)
          obtain ⟨h_193, eh_193, e⟩ := ce_nmE e
          rw [← eh_193] at hH
          refine lv_aload_n hx hb d12_next_196 rfl (lv_at hl 0 rfl) ?_
          refine lv_dup hx hb d12_next_197 rfl ?_
          refine gf_12_102 C hH d12_next_198 ?_
          refine lv_iconst (v := (1 : Int32)) hx hb d12_next_201 (by decide) ?_
          refine lv_iadd hx hb d12_next_202 ?_
          refine pf_12_102 C hH d12_next_203 (fun H locs hH => ?_)
          obtain ⟨h_203, eh_203, e⟩ := ce_nmE e
          rw [← eh_203] at hH
          exact ce_vret C (ce_sok aK aV B0) hH (Option.some.inj e) d12_next_206
        · have e := ce_if0 e hc185
          refine lv_iconst (v := (3 : Int32)) hx hb d12_next_188 (by decide) ?_
          refine lv_goto (tgt := 193) hx hb d12_next_189 (by decide) ?_
          refine pf_12_115 C hH d12_next_193 (fun H locs hH => ?_)
          obtain ⟨h_193, eh_193, e⟩ := ce_nmE e
          rw [← eh_193] at hH
          refine lv_aload_n hx hb d12_next_196 rfl (lv_at hl 0 rfl) ?_
          refine lv_dup hx hb d12_next_197 rfl ?_
          refine gf_12_102 C hH d12_next_198 ?_
          refine lv_iconst (v := (1 : Int32)) hx hb d12_next_201 (by decide) ?_
          refine lv_iadd hx hb d12_next_202 ?_
          refine pf_12_102 C hH d12_next_203 (fun H locs hH => ?_)
          obtain ⟨h_203, eh_203, e⟩ := ce_nmE e
          rw [← eh_203] at hH
          exact ce_vret C (ce_sok aK aV B0) hH (Option.some.inj e) d12_next_206
      · have e := ce_if0 e hc115
        refine lv_aload_n hx hb d12_next_118 rfl (lv_at hl 0 rfl) ?_
        refine lv_iconst (v := (2 : Int32)) hx hb d12_next_119 (by decide) ?_
        refine pf_12_115 C hH d12_next_120 (fun H locs hH => ?_)
        obtain ⟨h_120, eh_120, e⟩ := ce_nmE e
        rw [← eh_120] at hH
        refine l12_next_123 C F   r _ (fun  h_123 H locs ls hH hl e => ?_) F  h_120 _ _ _ hH (lv_sub hl [0] rfl) (ce_as e)
        try dsimp only at e
        exact ce_vret C (ce_sok aK aV B0) hH (Option.some.inj e) d12_next_206
    · have e := ce_if0 e hc75
      refine lv_aload_n hx hb d12_next_78 rfl (lv_at hl 0 rfl) ?_
      refine lv_iconst (v := (1 : Int32)) hx hb d12_next_79 (by decide) ?_
      refine pf_12_115 C hH d12_next_80 (fun H locs hH => ?_)
      obtain ⟨h_80, eh_80, e⟩ := ce_nmE e
      rw [← eh_80] at hH
      refine l12_next_83 C F   r _ (fun  h_83 H locs ls hH hl e => ?_) F  h_80 _ _ _ hH (lv_sub hl [0] rfl) (ce_as e)
      try dsimp only at e
      exact ce_vret C (ce_sok aK aV B0) hH (Option.some.inj e) d12_next_206
  · have e := ce_if1 e hc56
    refine lv_aload_n hx hb d12_next_59 rfl (lv_at hl 0 rfl) ?_
    refine lv_iconst (v := (0 : Int32)) hx hb d12_next_60 (by decide) ?_
    refine pf_12_115 C hH d12_next_61 (fun H locs hH => ?_)
    obtain ⟨h_61, eh_61, e⟩ := ce_nmE e
    rw [← eh_61] at hH
    refine lv_goto (tgt := 206) hx hb d12_next_64 (by decide) ?_
    exact ce_vret C (ce_sok aK aV B0) hH (Option.some.inj e) d12_next_206
abbrev b12_faults : ByteArray := prog_14_method_8_code
def y12_faults : MethodName := ⟨cn_12, "faults", "(I)V"⟩
theorem d12_faults_0 : decode b12_faults 0 = .ok (.aload_n 0, 1) := by decide +kernel
theorem d12_faults_1 : decode b12_faults 1 = .ok (.getfield 125, 3) := by decide +kernel
theorem d12_faults_4 : decode b12_faults 4 = .ok (.ifCond .ne 21, 3) := by decide +kernel
theorem d12_faults_7 : decode b12_faults 7 = .ok (.aload_n 0, 1) := by decide +kernel
theorem d12_faults_8 : decode b12_faults 8 = .ok (.iconst 1, 1) := by decide +kernel
theorem d12_faults_9 : decode b12_faults 9 = .ok (.putfield 125, 3) := by decide +kernel
theorem d12_faults_12 : decode b12_faults 12 = .ok (.aload_n 0, 1) := by decide +kernel
theorem d12_faults_13 : decode b12_faults 13 = .ok (.iload_n 1, 1) := by decide +kernel
theorem d12_faults_14 : decode b12_faults 14 = .ok (.putfield 129, 3) := by decide +kernel
theorem d12_faults_17 : decode b12_faults 17 = .ok (.aload_n 0, 1) := by decide +kernel
theorem d12_faults_18 : decode b12_faults 18 = .ok (.aload_n 0, 1) := by decide +kernel
theorem d12_faults_19 : decode b12_faults 19 = .ok (.getfield 109, 3) := by decide +kernel
theorem d12_faults_22 : decode b12_faults 22 = .ok (.putfield 22, 3) := by decide +kernel
theorem d12_faults_25 : decode b12_faults 25 = .ok (.return_, 1) := by decide +kernel
theorem fl_12_125 : Cond.fieldLink cn_12 125 (ft_12 11).1 (ft_12 11).2.1 (ft_12 11).2.2.1 ∈ ce_cm := ce_cm_of (List.mem_of_getElem? (i := 1132) (by decide +kernel)) (by decide +kernel)
theorem gf_12_125 (C : ce_Cx p s m args c meth cc nL ret cn_12 D ad cA B0 (ce_St aK aV B0)) (hH : ce_H D ad cA B0 X s h H locs) (hdg : decode cc pc = .ok (.getfield 125, 3)) (kk : W p l e0 R s m args below meth c H locs cells slots Q (F0 m (pc + 3) ls (.int (h 68 11) :: rest))) : W p l e0 R s m args below meth c H locs cells slots Q (F0 m pc ls (.ref (ad 68) :: rest)) := by
  exact ce_get C hH (k := 68) (ci := 12) (j := 11) (N := 43) (sj := none) (by decide) rfl rfl fw_12 (by decide) fl_12_125 rfl hdg kk
theorem pf_12_125 (C : ce_Cx p s m args c meth cc nL ret cn_12 D ad cA B0 (ce_St aK aV B0)) (hH : ce_H D ad cA B0 X s h H locs) {x : Int32} (hz : x = 0 ∨ x = 1) (hdg : decode cc pc = .ok (.putfield 125, 3)) (kk : ∀ (H1 : Heap) (locs1 : List Loc), ce_H D ad cA B0 X s (hp_up h 68 11 x) H1 locs1 → W p l e0 R s m args below meth c H1 locs1 cells slots Q (F0 m (pc + 3) ls rest)) : W p l e0 R s m args below meth c H locs cells slots Q (F0 m pc ls (.int x :: .ref (ad 68) :: rest)) := by
  exact ce_put C hH (k := 68) (ci := 12) (j := 11) (N := 43) (fy := fy_12) (sj := none) x (by decide) rfl rfl fw_12 fo_12 fn_12 (by decide) fl_12_125 rfl rfl (v := .int x) (by simp [ce_slot, upd]) (by rcases hz with rfl | rfl <;> rfl) (by rcases hz with rfl | rfl <;> rfl) hdg kk
theorem fl_12_129 : Cond.fieldLink cn_12 129 (ft_12 5).1 (ft_12 5).2.1 (ft_12 5).2.2.1 ∈ ce_cm := ce_cm_of (List.mem_of_getElem? (i := 1126) (by decide +kernel)) (by decide +kernel)
theorem gf_12_129 (C : ce_Cx p s m args c meth cc nL ret cn_12 D ad cA B0 (ce_St aK aV B0)) (hH : ce_H D ad cA B0 X s h H locs) (hdg : decode cc pc = .ok (.getfield 129, 3)) (kk : W p l e0 R s m args below meth c H locs cells slots Q (F0 m (pc + 3) ls (.int (h 68 5) :: rest))) : W p l e0 R s m args below meth c H locs cells slots Q (F0 m pc ls (.ref (ad 68) :: rest)) := by
  exact ce_get C hH (k := 68) (ci := 12) (j := 5) (N := 43) (sj := none) (by decide) rfl rfl fw_12 (by decide) fl_12_129 rfl hdg kk
theorem pf_12_129 (C : ce_Cx p s m args c meth cc nL ret cn_12 D ad cA B0 (ce_St aK aV B0)) (hH : ce_H D ad cA B0 X s h H locs) {x : Int32} (hdg : decode cc pc = .ok (.putfield 129, 3)) (kk : ∀ (H1 : Heap) (locs1 : List Loc), ce_H D ad cA B0 X s (hp_up h 68 5 x) H1 locs1 → W p l e0 R s m args below meth c H1 locs1 cells slots Q (F0 m (pc + 3) ls rest)) : W p l e0 R s m args below meth c H locs cells slots Q (F0 m pc ls (.int x :: .ref (ad 68) :: rest)) := by
  exact ce_put C hH (k := 68) (ci := 12) (j := 5) (N := 43) (fy := fy_12) (sj := none) x (by decide) rfl rfl fw_12 fo_12 fn_12 (by decide) fl_12_129 rfl rfl (v := .int x) (by simp [ce_slot, upd]) rfl rfl hdg kk
theorem fl_12_22 : Cond.fieldLink cn_12 22 (ft_12 6).1 (ft_12 6).2.1 (ft_12 6).2.2.1 ∈ ce_cm := ce_cm_of (List.mem_of_getElem? (i := 1127) (by decide +kernel)) (by decide +kernel)
theorem gf_12_22 (C : ce_Cx p s m args c meth cc nL ret cn_12 D ad cA B0 (ce_St aK aV B0)) (hH : ce_H D ad cA B0 X s h H locs) (hdg : decode cc pc = .ok (.getfield 22, 3)) (kk : W p l e0 R s m args below meth c H locs cells slots Q (F0 m (pc + 3) ls (.int (h 68 6) :: rest))) : W p l e0 R s m args below meth c H locs cells slots Q (F0 m pc ls (.ref (ad 68) :: rest)) := by
  exact ce_get C hH (k := 68) (ci := 12) (j := 6) (N := 43) (sj := none) (by decide) rfl rfl fw_12 (by decide) fl_12_22 rfl hdg kk
theorem pf_12_22 (C : ce_Cx p s m args c meth cc nL ret cn_12 D ad cA B0 (ce_St aK aV B0)) (hH : ce_H D ad cA B0 X s h H locs) {x : Int32} (hdg : decode cc pc = .ok (.putfield 22, 3)) (kk : ∀ (H1 : Heap) (locs1 : List Loc), ce_H D ad cA B0 X s (hp_up h 68 6 x) H1 locs1 → W p l e0 R s m args below meth c H1 locs1 cells slots Q (F0 m (pc + 3) ls rest)) : W p l e0 R s m args below meth c H locs cells slots Q (F0 m pc ls (.int x :: .ref (ad 68) :: rest)) := by
  exact ce_put C hH (k := 68) (ci := 12) (j := 6) (N := 43) (fy := fy_12) (sj := none) x (by decide) rfl rfl fw_12 fo_12 fn_12 (by decide) fl_12_22 rfl rfl (v := .int x) (by simp [ce_slot, upd]) rfl rfl hdg kk
def f12_faults (F : Nat) (x1 : Int32) (h : Hp) : Option (Hp) :=
  if (h 68 11) = 0 then
    ce_nm (hp_up h 68 11 (1 : Int32)) (fun h_9 =>
      ce_nm (hp_up h_9 68 5 x1) (fun h_14 =>
        ce_nm (hp_up h_14 68 6 (h_14 68 8)) (fun h_22 =>
          some h_22)))
  else
    some h
set_option maxRecDepth 20000 in
theorem c12_faults (l : Launch) (D : va_G) (ad : Nat → Nat) (cA : Nat → ClassId) (aK aV : Nat → Nat) (B0 : Nat) (hA : ce_Ad ad B0) (F : Nat) (x1 : Int32)  (h : Hp) (r : Hp) (e : f12_faults F x1 h = some r) : ce_Ct l D ad cA B0 (ce_St aK aV B0) y12_faults b12_faults 2 none 0 0 0 0 [.ref (ad 68), .int x1] h none r := by
  refine ce_enter hA (by decide) rfl (Nat.le_of_ble_eq_true rfl) (fun p e0 s m below meth c ls C hH hl => ?_)
  have hl : lv_has ls 2 [(0, .ref (ad 68)), (1, .int x1)] := hl
  have hx := C.1
  have hb := C.2.1
  have e : Option.bind _ some = some r := (congrArg (fun z => Option.bind z some) e).trans rfl
  unfold f12_faults at e
  refine lv_aload_n hx hb d12_faults_0 rfl (lv_at hl 0 rfl) ?_
  refine gf_12_125 C hH d12_faults_1 ?_
  refine lv_if_ne (tgt := 25) hx hb d12_faults_4 (by decide) (fun hc4 => ?_) (fun hc4 => ?_)
  · have e := ce_if0 e hc4
    exact ce_vret C (ce_sok aK aV B0) hH (Option.some.inj e) d12_faults_25
  · have e := ce_if1 e hc4
    refine lv_aload_n hx hb d12_faults_7 rfl (lv_at hl 0 rfl) ?_
    refine lv_iconst (v := (1 : Int32)) hx hb d12_faults_8 (by decide) ?_
    refine pf_12_125 C hH (Or.inr rfl) d12_faults_9 (fun H locs hH => ?_)
    obtain ⟨h_9, eh_9, e⟩ := ce_nmE e
    rw [← eh_9] at hH
    refine lv_aload_n hx hb d12_faults_12 rfl (lv_at hl 0 rfl) ?_
    refine lv_iload_n hx hb d12_faults_13 rfl (lv_at hl 1 rfl) ?_
    refine pf_12_129 C hH d12_faults_14 (fun H locs hH => ?_)
    obtain ⟨h_14, eh_14, e⟩ := ce_nmE e
    rw [← eh_14] at hH
    refine lv_aload_n hx hb d12_faults_17 rfl (lv_at hl 0 rfl) ?_
    refine lv_aload_n hx hb d12_faults_18 rfl (lv_at hl 0 rfl) ?_
    refine gf_12_109 C hH d12_faults_19 ?_
    refine pf_12_22 C hH d12_faults_22 (fun H locs hH => ?_)
    obtain ⟨h_22, eh_22, e⟩ := ce_nmE e
    rw [← eh_22] at hH
    exact ce_vret C (ce_sok aK aV B0) hH (Option.some.inj e) d12_faults_25
abbrev b12_isWord : ByteArray := prog_14_method_9_code
def y12_isWord : MethodName := ⟨cn_12, "isWord", "(Ljava/lang/String;)Z"⟩
theorem d12_isWord_0 : decode b12_isWord 0 = .ok (.aload_n 0, 1) := by decide +kernel
theorem d12_isWord_1 : decode b12_isWord 1 = .ok (.getfield 115, 3) := by decide +kernel
theorem d12_isWord_4 : decode b12_isWord 4 = .ok (.iconst 1, 1) := by decide +kernel
theorem d12_isWord_5 : decode b12_isWord 5 = .ok (.if_icmp .ne 23, 3) := by decide +kernel
theorem d12_isWord_8 : decode b12_isWord 8 = .ok (.aload_n 0, 1) := by decide +kernel
theorem d12_isWord_9 : decode b12_isWord 9 = .ok (.getfield 102, 3) := by decide +kernel
theorem d12_isWord_12 : decode b12_isWord 12 = .ok (.aload_n 0, 1) := by decide +kernel
theorem d12_isWord_13 : decode b12_isWord 13 = .ok (.getfield 109, 3) := by decide +kernel
theorem d12_isWord_16 : decode b12_isWord 16 = .ok (.isub, 1) := by decide +kernel
theorem d12_isWord_17 : decode b12_isWord 17 = .ok (.aload_n 1, 1) := by decide +kernel
theorem d12_isWord_18 : decode b12_isWord 18 = .ok (.invokevirtual 132, 3) := by decide +kernel
theorem d12_isWord_21 : decode b12_isWord 21 = .ok (.if_icmp .ne 7, 3) := by decide +kernel
theorem d12_isWord_24 : decode b12_isWord 24 = .ok (.iconst 1, 1) := by decide +kernel
theorem d12_isWord_25 : decode b12_isWord 25 = .ok (.goto 4, 3) := by decide +kernel
theorem d12_isWord_28 : decode b12_isWord 28 = .ok (.iconst 0, 1) := by decide +kernel
theorem d12_isWord_29 : decode b12_isWord 29 = .ok (.istore_n 2, 1) := by decide +kernel
theorem d12_isWord_30 : decode b12_isWord 30 = .ok (.iconst 0, 1) := by decide +kernel
theorem d12_isWord_31 : decode b12_isWord 31 = .ok (.istore_n 3, 1) := by decide +kernel
theorem d12_isWord_32 : decode b12_isWord 32 = .ok (.iload_n 3, 1) := by decide +kernel
theorem d12_isWord_33 : decode b12_isWord 33 = .ok (.aload_n 1, 1) := by decide +kernel
theorem d12_isWord_34 : decode b12_isWord 34 = .ok (.invokevirtual 132, 3) := by decide +kernel
theorem d12_isWord_37 : decode b12_isWord 37 = .ok (.if_icmp .ge 38, 3) := by decide +kernel
theorem d12_isWord_40 : decode b12_isWord 40 = .ok (.iload_n 2, 1) := by decide +kernel
theorem d12_isWord_41 : decode b12_isWord 41 = .ok (.ifCond .eq 34, 3) := by decide +kernel
theorem d12_isWord_44 : decode b12_isWord 44 = .ok (.aload_n 0, 1) := by decide +kernel
theorem d12_isWord_45 : decode b12_isWord 45 = .ok (.getfield 19, 3) := by decide +kernel
theorem d12_isWord_48 : decode b12_isWord 48 = .ok (.aload_n 0, 1) := by decide +kernel
theorem d12_isWord_49 : decode b12_isWord 49 = .ok (.getfield 109, 3) := by decide +kernel
theorem d12_isWord_52 : decode b12_isWord 52 = .ok (.iload_n 3, 1) := by decide +kernel
theorem d12_isWord_53 : decode b12_isWord 53 = .ok (.iadd, 1) := by decide +kernel
theorem d12_isWord_54 : decode b12_isWord 54 = .ok (.iaload, 1) := by decide +kernel
theorem d12_isWord_55 : decode b12_isWord 55 = .ok (.aload_n 1, 1) := by decide +kernel
theorem d12_isWord_56 : decode b12_isWord 56 = .ok (.iload_n 3, 1) := by decide +kernel
theorem d12_isWord_57 : decode b12_isWord 57 = .ok (.invokevirtual 138, 3) := by decide +kernel
theorem d12_isWord_60 : decode b12_isWord 60 = .ok (.if_icmp .ne 7, 3) := by decide +kernel
theorem d12_isWord_63 : decode b12_isWord 63 = .ok (.iconst 1, 1) := by decide +kernel
theorem d12_isWord_64 : decode b12_isWord 64 = .ok (.goto 4, 3) := by decide +kernel
theorem d12_isWord_67 : decode b12_isWord 67 = .ok (.iconst 0, 1) := by decide +kernel
theorem d12_isWord_68 : decode b12_isWord 68 = .ok (.istore_n 2, 1) := by decide +kernel
theorem d12_isWord_69 : decode b12_isWord 69 = .ok (.iinc 3 1, 3) := by decide +kernel
theorem d12_isWord_72 : decode b12_isWord 72 = .ok (.goto (-40), 3) := by decide +kernel
theorem d12_isWord_75 : decode b12_isWord 75 = .ok (.iload_n 2, 1) := by decide +kernel
theorem d12_isWord_76 : decode b12_isWord 76 = .ok (.ireturn, 1) := by decide +kernel
theorem ml_12_132 : Cond.methodLink cn_12 132 yS_length ∈ ce_cm := ce_cm_of (List.mem_of_getElem? (i := 1289) (by decide +kernel)) (by decide +kernel)
theorem ml_12_138 : Cond.methodLink cn_12 138 yS_charAt ∈ ce_cm := ce_cm_of (List.mem_of_getElem? (i := 1290) (by decide +kernel)) (by decide +kernel)
def f12_isWord_b32 (F : Nat) (w1 : Nat) (x2 : Int32) (x3 : Int32) (h : Hp) : Option ((Int32 × Int32 × Hp) ⊕ (Int32 × Hp)) :=
  if (ce_slen w1) ≤ x3 then
    some (.inr (x2, h))
  else
    if x2 = 0 then
      some (.inr (x2, h))
    else
      if ce_in ((h 68 8) + x3) 700 = true then
        if ce_in x3 (ce_lens.getD w1 0) = true then
          if (h 72 (((h 68 8) + x3)).toNatClampNeg) = (ce_chr w1 x3) then
            some (.inl ((1 : Int32), x3 + (1 : Int32), h))
          else
            some (.inl ((0 : Int32), x3 + (1 : Int32), h))
        else none
      else none
set_option maxRecDepth 20000 in
theorem l12_isWord_32 (C : ce_Cx p s m args c meth b12_isWord 4 (some .boolean) cn_12 D ad cA B0 (ce_St aK aV B0)) (F : Nat) (w1 : Nat) (hw1 : w1 < 9) (r : Int32 × Hp) (g : (Int32 × Hp) → Option (Int32 × Hp)) (hx : ∀ (x2 : Int32) (h : Hp) (H : Heap) (locs : List Loc) (ls : Array Slot), ce_H D ad cA B0 [] s h H locs → lv_has ls 4 [(2, .int x2)] → g (x2, h) = some r → W p l e0 { frames := 9, cells := 0, slots := 0, locals := 221 } s m args below meth c H locs 0 0 (MQ below (ce_Q D ad cA B0 (ce_St aK aV B0) (some (.int r.1)) r.2) args s 0 0 (fun q => B0 ≤ q)) (F0 m 75 ls [])) : ∀ (n : Nat) (x2 : Int32) (x3 : Int32) (h : Hp) (H : Heap) (locs : List Loc) (ls : Array Slot), ce_H D ad cA B0 [] s h H locs → lv_has ls 4 [(0, .ref (ad 68)), (1, .ref (aK w1)), (2, .int x2), (3, .int x3)] → Option.bind (ce_it (fun (st : Int32 × Int32 × Hp) => f12_isWord_b32 F w1 st.1 st.2.1 st.2.2) n (x2, x3, h)) g = some r → W p l e0 { frames := 9, cells := 0, slots := 0, locals := 221 } s m args below meth c H locs 0 0 (MQ below (ce_Q D ad cA B0 (ce_St aK aV B0) (some (.int r.1)) r.2) args s 0 0 (fun q => B0 ≤ q)) (F0 m 32 ls []) := by
  intro n
  induction n with
  | zero =>
    intro x2 x3 h H locs ls hH hl e
    exact absurd e (fun z => by cases z)
  | succ n ih =>
    intro x2 x3 h H locs ls hH hl e
    have hx9 := C.1
    have hb := C.2.1
    have e : Option.bind (f12_isWord_b32 F w1 x2 x3 h) _ = some r := ce_it_bd e
    unfold f12_isWord_b32 at e
    refine lv_iload_n hx9 hb d12_isWord_32 rfl (lv_at hl 3 rfl) ?_
    refine lv_aload_n hx9 hb d12_isWord_33 rfl (lv_at hl 1 rfl) ?_
    refine ce_callT (As := []) (rest := [.int x3]) C hH (cS_length l D ad cA aK aV B0 C.2.2.2.2.2.2.1 w1 hw1 h) hw1 rfl mcS_length ml_12_132 miS_length msS_length mI_S (n := 0) (by decide) rfl ⟨Nat.le_of_ble_eq_true rfl, Nat.le_of_ble_eq_true rfl⟩ ⟨Nat.le_of_ble_eq_true rfl, Nat.le_of_ble_eq_true rfl⟩ hl.1 rfl (Nat.le_of_ble_eq_true rfl) d12_isWord_34 (fun H locs hH => ?_)
    refine W.eq (g2 := F0 m 37 ls [.int (ce_slen w1), .int x3]) rfl ?_
    refine lv_icmp_ge (tgt := 75) hx9 hb d12_isWord_37 (by decide) (fun hc37 => ?_) (fun hc37 => ?_)
    · have e := ce_if1 e hc37
      exact hx x2 h _ _ _ hH (lv_sub hl [2] rfl) e
    · have e := ce_if0 e hc37
      refine lv_iload_n hx9 hb d12_isWord_40 rfl (lv_at hl 2 rfl) ?_
      refine lv_if_eq (tgt := 75) hx9 hb d12_isWord_41 (by decide) (fun hc41 => ?_) (fun hc41 => ?_)
      · have e := ce_if1 e hc41
        exact hx x2 h _ _ _ hH (lv_sub hl [2] rfl) e
      · have e := ce_if0 e hc41
        refine lv_aload_n hx9 hb d12_isWord_44 rfl (lv_at hl 0 rfl) ?_
        refine gf_12_19 C hH d12_isWord_45 ?_
        refine lv_aload_n hx9 hb d12_isWord_48 rfl (lv_at hl 0 rfl) ?_
        refine gf_12_109 C hH d12_isWord_49 ?_
        refine lv_iload_n hx9 hb d12_isWord_52 rfl (lv_at hl 3 rfl) ?_
        refine lv_iadd hx9 hb d12_isWord_53 ?_
        obtain ⟨hi54, e⟩ := ce_gd e
        refine ce_iald C hH lc_72.1 lc_72.2 (ce_in_vp hi54) d12_isWord_54 ?_
        refine lv_aload_n hx9 hb d12_isWord_55 rfl (lv_at hl 1 rfl) ?_
        refine lv_iload_n hx9 hb d12_isWord_56 rfl (lv_at hl 3 rfl) ?_
        obtain ⟨hi57, e⟩ := ce_gd e
        refine ce_callT (As := [.int x3]) (rest := [.int (h 72 (((h 68 8) + x3)).toNatClampNeg)]) C hH (cS_charAt l D ad cA aK aV B0 C.2.2.2.2.2.2.1 w1 hw1 x3 hi57 h) hw1 rfl mcS_charAt ml_12_138 miS_charAt msS_charAt mI_S (n := 1) (by decide) rfl ⟨Nat.le_of_ble_eq_true rfl, Nat.le_of_ble_eq_true rfl⟩ ⟨Nat.le_of_ble_eq_true rfl, Nat.le_of_ble_eq_true rfl⟩ hl.1 rfl (Nat.le_of_ble_eq_true rfl) d12_isWord_57 (fun H locs hH => ?_)
        refine W.eq (g2 := F0 m 60 ls [.int (ce_chr w1 x3), .int (h 72 (((h 68 8) + x3)).toNatClampNeg)]) rfl ?_
        refine lv_icmp_ne (tgt := 67) hx9 hb d12_isWord_60 (by decide) (fun hc60 => ?_) (fun hc60 => ?_)
        · have e := ce_if0 e hc60
          refine lv_iconst (v := (0 : Int32)) hx9 hb d12_isWord_67 (by decide) ?_
          refine lv_istore_n (lv' := [(2, .int (0 : Int32)), (0, .ref (ad 68)), (1, .ref (aK w1)), (3, .int x3)]) hx9 hb d12_isWord_68 rfl hl (by decide) rfl (fun ls hl => ?_)
          refine lv_iinc (v := x3 + (1 : Int32)) (lv' := [(3, .int (x3 + (1 : Int32))), (2, .int (0 : Int32)), (0, .ref (ad 68)), (1, .ref (aK w1))]) hx9 hb d12_isWord_69 hl (k := 3) rfl rfl (by decide) rfl (fun ls hl => ?_)
          refine lv_goto (tgt := 32) hx9 hb d12_isWord_72 (by decide) ?_
          exact ih (0 : Int32) (x3 + (1 : Int32)) h _ _ _ hH (lv_sub hl [2, 3, 1, 0] rfl) e
        · have e := ce_if1 e hc60
          refine lv_iconst (v := (1 : Int32)) hx9 hb d12_isWord_63 (by decide) ?_
          refine lv_goto (tgt := 68) hx9 hb d12_isWord_64 (by decide) ?_
          refine lv_istore_n (lv' := [(2, .int (1 : Int32)), (0, .ref (ad 68)), (1, .ref (aK w1)), (3, .int x3)]) hx9 hb d12_isWord_68 rfl hl (by decide) rfl (fun ls hl => ?_)
          refine lv_iinc (v := x3 + (1 : Int32)) (lv' := [(3, .int (x3 + (1 : Int32))), (2, .int (1 : Int32)), (0, .ref (ad 68)), (1, .ref (aK w1))]) hx9 hb d12_isWord_69 hl (k := 3) rfl rfl (by decide) rfl (fun ls hl => ?_)
          refine lv_goto (tgt := 32) hx9 hb d12_isWord_72 (by decide) ?_
          exact ih (1 : Int32) (x3 + (1 : Int32)) h _ _ _ hH (lv_sub hl [2, 3, 1, 0] rfl) e
def f12_isWord (F : Nat) (w1 : Nat) (h : Hp) : Option (Int32 × Hp) :=
  if (h 68 9) = (1 : Int32) then
    if ((h 68 7) - (h 68 8)) = (ce_slen w1) then
      Option.bind (ce_it (fun (st : Int32 × Int32 × Hp) => f12_isWord_b32 F w1 st.1 st.2.1 st.2.2) F ((1 : Int32), (0 : Int32), h)) (fun o32 =>
        if o32.1 = 0 ∨ o32.1 = 1 then some (o32.1, o32.2) else none)
    else
      Option.bind (ce_it (fun (st : Int32 × Int32 × Hp) => f12_isWord_b32 F w1 st.1 st.2.1 st.2.2) F ((0 : Int32), (0 : Int32), h)) (fun o32 =>
        if o32.1 = 0 ∨ o32.1 = 1 then some (o32.1, o32.2) else none)
  else
    Option.bind (ce_it (fun (st : Int32 × Int32 × Hp) => f12_isWord_b32 F w1 st.1 st.2.1 st.2.2) F ((0 : Int32), (0 : Int32), h)) (fun o32 =>
      if o32.1 = 0 ∨ o32.1 = 1 then some (o32.1, o32.2) else none)
set_option maxRecDepth 20000 in
theorem c12_isWord (l : Launch) (D : va_G) (ad : Nat → Nat) (cA : Nat → ClassId) (aK aV : Nat → Nat) (B0 : Nat) (hA : ce_Ad ad B0) (F : Nat) (w1 : Nat) (hw1 : w1 < 9) (h : Hp) (r : Int32 × Hp) (e : f12_isWord F w1 h = some r) : ce_Ct l D ad cA B0 (ce_St aK aV B0) y12_isWord b12_isWord 4 (some .boolean) 9 221 0 0 [.ref (ad 68), .ref (aK w1)] h (some (.int r.1)) r.2 := by
  refine ce_enter hA (by decide) rfl (Nat.le_of_ble_eq_true rfl) (fun p e0 s m below meth c ls C hH hl => ?_)
  have hl : lv_has ls 4 [(0, .ref (ad 68)), (1, .ref (aK w1))] := hl
  have hx := C.1
  have hb := C.2.1
  have e : Option.bind _ some = some r := (congrArg (fun z => Option.bind z some) e).trans rfl
  unfold f12_isWord at e
  refine lv_aload_n hx hb d12_isWord_0 rfl (lv_at hl 0 rfl) ?_
  refine gf_12_115 C hH d12_isWord_1 ?_
  refine lv_iconst (v := (1 : Int32)) hx hb d12_isWord_4 (by decide) ?_
  refine lv_icmp_ne (tgt := 28) hx hb d12_isWord_5 (by decide) (fun hc5 => ?_) (fun hc5 => ?_)
  · have e := ce_if0 e hc5
    refine lv_iconst (v := (0 : Int32)) hx hb d12_isWord_28 (by decide) ?_
    refine lv_istore_n (lv' := [(2, .int (0 : Int32)), (0, .ref (ad 68)), (1, .ref (aK w1))]) hx hb d12_isWord_29 rfl hl (by decide) rfl (fun ls hl => ?_)
    refine lv_iconst (v := (0 : Int32)) hx hb d12_isWord_30 (by decide) ?_
    refine lv_istore_n (lv' := [(3, .int (0 : Int32)), (2, .int (0 : Int32)), (0, .ref (ad 68)), (1, .ref (aK w1))]) hx hb d12_isWord_31 rfl hl (by decide) rfl (fun ls hl => ?_)
    refine l12_isWord_32 C F w1 hw1 r _ (fun y32_2 h_32 H locs ls hH hl e => ?_) F (0 : Int32) (0 : Int32) h _ _ _ hH (lv_sub hl [2, 3, 1, 0] rfl) (ce_as e)
    try dsimp only at e
    refine lv_iload_n hx hb d12_isWord_75 rfl (lv_at hl 0 rfl) ?_
    obtain ⟨hz76, e⟩ := ce_gd e
    exact ce_zretE C (ce_sok aK aV B0) hH hz76 e d12_isWord_76
  · have e := ce_if1 e hc5
    refine lv_aload_n hx hb d12_isWord_8 rfl (lv_at hl 0 rfl) ?_
    refine gf_12_102 C hH d12_isWord_9 ?_
    refine lv_aload_n hx hb d12_isWord_12 rfl (lv_at hl 0 rfl) ?_
    refine gf_12_109 C hH d12_isWord_13 ?_
    refine lv_isub hx hb d12_isWord_16 ?_
    refine lv_aload_n hx hb d12_isWord_17 rfl (lv_at hl 1 rfl) ?_
    refine ce_callT (As := []) (rest := [.int ((h 68 7) - (h 68 8))]) C hH (cS_length l D ad cA aK aV B0 C.2.2.2.2.2.2.1 w1 hw1 h) hw1 rfl mcS_length ml_12_132 miS_length msS_length mI_S (n := 0) (by decide) rfl ⟨Nat.le_of_ble_eq_true rfl, Nat.le_of_ble_eq_true rfl⟩ ⟨Nat.le_of_ble_eq_true rfl, Nat.le_of_ble_eq_true rfl⟩ hl.1 rfl (Nat.le_of_ble_eq_true rfl) d12_isWord_18 (fun H locs hH => ?_)
    refine W.eq (g2 := F0 m 21 ls [.int (ce_slen w1), .int ((h 68 7) - (h 68 8))]) rfl ?_
    refine lv_icmp_ne (tgt := 28) hx hb d12_isWord_21 (by decide) (fun hc21 => ?_) (fun hc21 => ?_)
    · have e := ce_if0 e hc21
      refine lv_iconst (v := (0 : Int32)) hx hb d12_isWord_28 (by decide) ?_
      refine lv_istore_n (lv' := [(2, .int (0 : Int32)), (0, .ref (ad 68)), (1, .ref (aK w1))]) hx hb d12_isWord_29 rfl hl (by decide) rfl (fun ls hl => ?_)
      refine lv_iconst (v := (0 : Int32)) hx hb d12_isWord_30 (by decide) ?_
      refine lv_istore_n (lv' := [(3, .int (0 : Int32)), (2, .int (0 : Int32)), (0, .ref (ad 68)), (1, .ref (aK w1))]) hx hb d12_isWord_31 rfl hl (by decide) rfl (fun ls hl => ?_)
      refine l12_isWord_32 C F w1 hw1 r _ (fun y32_2 h_32 H locs ls hH hl e => ?_) F (0 : Int32) (0 : Int32) h _ _ _ hH (lv_sub hl [2, 3, 1, 0] rfl) (ce_as e)
      try dsimp only at e
      refine lv_iload_n hx hb d12_isWord_75 rfl (lv_at hl 0 rfl) ?_
      obtain ⟨hz76, e⟩ := ce_gd e
      exact ce_zretE C (ce_sok aK aV B0) hH hz76 e d12_isWord_76
    · have e := ce_if1 e hc21
      refine lv_iconst (v := (1 : Int32)) hx hb d12_isWord_24 (by decide) ?_
      refine lv_goto (tgt := 29) hx hb d12_isWord_25 (by decide) ?_
      refine lv_istore_n (lv' := [(2, .int (1 : Int32)), (0, .ref (ad 68)), (1, .ref (aK w1))]) hx hb d12_isWord_29 rfl hl (by decide) rfl (fun ls hl => ?_)
      refine lv_iconst (v := (0 : Int32)) hx hb d12_isWord_30 (by decide) ?_
      refine lv_istore_n (lv' := [(3, .int (0 : Int32)), (2, .int (1 : Int32)), (0, .ref (ad 68)), (1, .ref (aK w1))]) hx hb d12_isWord_31 rfl hl (by decide) rfl (fun ls hl => ?_)
      refine l12_isWord_32 C F w1 hw1 r _ (fun y32_2 h_32 H locs ls hH hl e => ?_) F (1 : Int32) (0 : Int32) h _ _ _ hH (lv_sub hl [2, 3, 1, 0] rfl) (ce_as e)
      try dsimp only at e
      refine lv_iload_n hx hb d12_isWord_75 rfl (lv_at hl 0 rfl) ?_
      obtain ⟨hz76, e⟩ := ce_gd e
      exact ce_zretE C (ce_sok aK aV B0) hH hz76 e d12_isWord_76
abbrev b12_passes : ByteArray := prog_14_method_10_code
def y12_passes : MethodName := ⟨cn_12, "passes", "(Z)V"⟩
theorem d12_passes_0 : decode b12_passes 0 = .ok (.iload_n 1, 1) := by decide +kernel
theorem d12_passes_1 : decode b12_passes 1 = .ok (.ifCond .ne 8, 3) := by decide +kernel
theorem d12_passes_4 : decode b12_passes 4 = .ok (.aload_n 0, 1) := by decide +kernel
theorem d12_passes_5 : decode b12_passes 5 = .ok (.iconst 1, 1) := by decide +kernel
theorem d12_passes_6 : decode b12_passes 6 = .ok (.invokevirtual 142, 3) := by decide +kernel
theorem d12_passes_9 : decode b12_passes 9 = .ok (.aload_n 0, 1) := by decide +kernel
theorem d12_passes_10 : decode b12_passes 10 = .ok (.getfield 125, 3) := by decide +kernel
theorem d12_passes_13 : decode b12_passes 13 = .ok (.ifCond .ne 7, 3) := by decide +kernel
theorem d12_passes_16 : decode b12_passes 16 = .ok (.aload_n 0, 1) := by decide +kernel
theorem d12_passes_17 : decode b12_passes 17 = .ok (.invokevirtual 146, 3) := by decide +kernel
theorem d12_passes_20 : decode b12_passes 20 = .ok (.return_, 1) := by decide +kernel
theorem mc12_next : Cond.code y12_next b12_next 1 none ∈ ce_cm := ce_cm_of (List.mem_of_getElem? (i := 1273) (by decide +kernel)) (by decide +kernel)
theorem ml_12_146 : Cond.methodLink cn_12 146 y12_next ∈ ce_cm := ce_cm_of (List.mem_of_getElem? (i := 1270) (by decide +kernel)) (by decide +kernel)
theorem mi12_next : Cond.instanceMethod y12_next ∈ ce_cm := ce_cm_of (List.mem_of_getElem? (i := 1272) (by decide +kernel)) (by decide +kernel)
theorem ms12_next : Cond.selects cn_12 y12_next y12_next ∈ ce_cm := ce_cm_of (List.mem_of_getElem? (i := 31) (by decide +kernel)) (by decide +kernel)
theorem mc12_faults : Cond.code y12_faults b12_faults 2 none ∈ ce_cm := ce_cm_of (List.mem_of_getElem? (i := 1298) (by decide +kernel)) (by decide +kernel)
theorem ml_12_142 : Cond.methodLink cn_12 142 y12_faults ∈ ce_cm := ce_cm_of (List.mem_of_getElem? (i := 1295) (by decide +kernel)) (by decide +kernel)
theorem mi12_faults : Cond.instanceMethod y12_faults ∈ ce_cm := ce_cm_of (List.mem_of_getElem? (i := 1297) (by decide +kernel)) (by decide +kernel)
theorem ms12_faults : Cond.selects cn_12 y12_faults y12_faults ∈ ce_cm := ce_cm_of (List.mem_of_getElem? (i := 36) (by decide +kernel)) (by decide +kernel)
def f12_passes (F : Nat) (x1 : Int32) (h : Hp) : Option (Hp) :=
  if x1 = 0 then
    Option.bind (f12_faults F (1 : Int32) h) (fun o6 =>
      if (o6 68 11) = 0 then
        Option.bind (f12_next F  o6) (fun o17 =>
          some o17)
      else
        some o6)
  else
    if (h 68 11) = 0 then
      Option.bind (f12_next F  h) (fun o17 =>
        some o17)
    else
      some h
set_option maxRecDepth 20000 in
theorem c12_passes (l : Launch) (D : va_G) (ad : Nat → Nat) (cA : Nat → ClassId) (aK aV : Nat → Nat) (B0 : Nat) (hA : ce_Ad ad B0) (F : Nat) (x1 : Int32)  (h : Hp) (r : Hp) (e : f12_passes F x1 h = some r) : ce_Ct l D ad cA B0 (ce_St aK aV B0) y12_passes b12_passes 2 none 3 67 0 0 [.ref (ad 68), .int x1] h none r := by
  refine ce_enter hA (by decide) rfl (Nat.le_of_ble_eq_true rfl) (fun p e0 s m below meth c ls C hH hl => ?_)
  have hl : lv_has ls 2 [(0, .ref (ad 68)), (1, .int x1)] := hl
  have hx := C.1
  have hb := C.2.1
  have e : Option.bind _ some = some r := (congrArg (fun z => Option.bind z some) e).trans rfl
  unfold f12_passes at e
  refine lv_iload_n hx hb d12_passes_0 rfl (lv_at hl 1 rfl) ?_
  refine lv_if_ne (tgt := 9) hx hb d12_passes_1 (by decide) (fun hc1 => ?_) (fun hc1 => ?_)
  · have e := ce_if0 e hc1
    refine lv_aload_n hx hb d12_passes_9 rfl (lv_at hl 0 rfl) ?_
    refine gf_12_125 C hH d12_passes_10 ?_
    refine lv_if_ne (tgt := 20) hx hb d12_passes_13 (by decide) (fun hc13 => ?_) (fun hc13 => ?_)
    · have e := ce_if0 e hc13
      exact ce_vret C (ce_sok aK aV B0) hH (Option.some.inj e) d12_passes_20
    · have e := ce_if1 e hc13
      refine lv_aload_n hx hb d12_passes_16 rfl (lv_at hl 0 rfl) ?_
      obtain ⟨o17, eo17, e⟩ := ce_bd e
      refine ce_callV (As := []) (rest := []) C (ce_sok aK aV B0) hH (c12_next l D ad cA aK aV B0 C.2.2.2.2.2.2.1 F   h o17 eo17) lo_68.1 lo_68.2.choose_spec rfl rfl mc12_next ml_12_146 mi12_next ms12_next mI_12 (n := 0) (by decide) rfl ⟨Nat.le_of_ble_eq_true rfl, Nat.le_of_ble_eq_true rfl⟩ ⟨Nat.le_of_ble_eq_true rfl, Nat.le_of_ble_eq_true rfl⟩ hl.1 rfl (Nat.le_of_ble_eq_true rfl) d12_passes_17 (fun H locs hH => ?_)
      refine W.eq (g2 := F0 m 20 ls []) rfl ?_
      exact ce_vret C (ce_sok aK aV B0) hH (Option.some.inj e) d12_passes_20
  · have e := ce_if1 e hc1
    refine lv_aload_n hx hb d12_passes_4 rfl (lv_at hl 0 rfl) ?_
    refine lv_iconst (v := (1 : Int32)) hx hb d12_passes_5 (by decide) ?_
    obtain ⟨o6, eo6, e⟩ := ce_bd e
    refine ce_callV (As := [.int (1 : Int32)]) (rest := []) C (ce_sok aK aV B0) hH (c12_faults l D ad cA aK aV B0 C.2.2.2.2.2.2.1 F (1 : Int32)  h o6 eo6) lo_68.1 lo_68.2.choose_spec rfl rfl mc12_faults ml_12_142 mi12_faults ms12_faults mI_12 (n := 1) (by decide) rfl ⟨Nat.le_of_ble_eq_true rfl, Nat.le_of_ble_eq_true rfl⟩ ⟨Nat.le_of_ble_eq_true rfl, Nat.le_of_ble_eq_true rfl⟩ hl.1 rfl (Nat.le_of_ble_eq_true rfl) d12_passes_6 (fun H locs hH => ?_)
    refine W.eq (g2 := F0 m 9 ls []) rfl ?_
    refine lv_aload_n hx hb d12_passes_9 rfl (lv_at hl 0 rfl) ?_
    refine gf_12_125 C hH d12_passes_10 ?_
    refine lv_if_ne (tgt := 20) hx hb d12_passes_13 (by decide) (fun hc13 => ?_) (fun hc13 => ?_)
    · have e := ce_if0 e hc13
      exact ce_vret C (ce_sok aK aV B0) hH (Option.some.inj e) d12_passes_20
    · have e := ce_if1 e hc13
      refine lv_aload_n hx hb d12_passes_16 rfl (lv_at hl 0 rfl) ?_
      obtain ⟨o17, eo17, e⟩ := ce_bd e
      refine ce_callV (As := []) (rest := []) C (ce_sok aK aV B0) hH (c12_next l D ad cA aK aV B0 C.2.2.2.2.2.2.1 F   o6 o17 eo17) lo_68.1 lo_68.2.choose_spec rfl rfl mc12_next ml_12_146 mi12_next ms12_next mI_12 (n := 0) (by decide) rfl ⟨Nat.le_of_ble_eq_true rfl, Nat.le_of_ble_eq_true rfl⟩ ⟨Nat.le_of_ble_eq_true rfl, Nat.le_of_ble_eq_true rfl⟩ hl.1 rfl (Nat.le_of_ble_eq_true rfl) d12_passes_17 (fun H locs hH => ?_)
      refine W.eq (g2 := F0 m 20 ls []) rfl ?_
      exact ce_vret C (ce_sok aK aV B0) hH (Option.some.inj e) d12_passes_20
abbrev b12_reads : ByteArray := prog_14_method_11_code
def y12_reads : MethodName := ⟨cn_12, "reads", "(II)I"⟩
theorem d12_reads_0 : decode b12_reads 0 = .ok (.aload_n 0, 1) := by decide +kernel
theorem d12_reads_1 : decode b12_reads 1 = .ok (.getfield 112, 3) := by decide +kernel
theorem d12_reads_4 : decode b12_reads 4 = .ok (.istore_n 3, 1) := by decide +kernel
theorem d12_reads_5 : decode b12_reads 5 = .ok (.aload_n 0, 1) := by decide +kernel
theorem d12_reads_6 : decode b12_reads 6 = .ok (.getfield 125, 3) := by decide +kernel
theorem d12_reads_9 : decode b12_reads 9 = .ok (.ifCond .eq 5, 3) := by decide +kernel
theorem d12_reads_12 : decode b12_reads 12 = .ok (.iload_n 1, 1) := by decide +kernel
theorem d12_reads_13 : decode b12_reads 13 = .ok (.ireturn, 1) := by decide +kernel
theorem d12_reads_14 : decode b12_reads 14 = .ok (.aload_n 0, 1) := by decide +kernel
theorem d12_reads_15 : decode b12_reads 15 = .ok (.getfield 115, 3) := by decide +kernel
theorem d12_reads_18 : decode b12_reads 18 = .ok (.iconst 2, 1) := by decide +kernel
theorem d12_reads_19 : decode b12_reads 19 = .ok (.if_icmp .eq 11, 3) := by decide +kernel
theorem d12_reads_22 : decode b12_reads 22 = .ok (.aload_n 0, 1) := by decide +kernel
theorem d12_reads_23 : decode b12_reads 23 = .ok (.iconst 1, 1) := by decide +kernel
theorem d12_reads_24 : decode b12_reads 24 = .ok (.invokevirtual 142, 3) := by decide +kernel
theorem d12_reads_27 : decode b12_reads 27 = .ok (.goto 20, 3) := by decide +kernel
theorem d12_reads_30 : decode b12_reads 30 = .ok (.iload_n 3, 1) := by decide +kernel
theorem d12_reads_31 : decode b12_reads 31 = .ok (.i2l, 1) := by decide +kernel
theorem d12_reads_32 : decode b12_reads 32 = .ok (.iload_n 1, 1) := by decide +kernel
theorem d12_reads_33 : decode b12_reads 33 = .ok (.i2l, 1) := by decide +kernel
theorem d12_reads_34 : decode b12_reads 34 = .ok (.iload_n 2, 1) := by decide +kernel
theorem d12_reads_35 : decode b12_reads 35 = .ok (.i2l, 1) := by decide +kernel
theorem d12_reads_36 : decode b12_reads 36 = .ok (.invokestatic 98, 3) := by decide +kernel
theorem d12_reads_39 : decode b12_reads 39 = .ok (.ifCond .ne 8, 3) := by decide +kernel
theorem d12_reads_42 : decode b12_reads 42 = .ok (.aload_n 0, 1) := by decide +kernel
theorem d12_reads_43 : decode b12_reads 43 = .ok (.iconst 2, 1) := by decide +kernel
theorem d12_reads_44 : decode b12_reads 44 = .ok (.invokevirtual 142, 3) := by decide +kernel
theorem d12_reads_47 : decode b12_reads 47 = .ok (.aload_n 0, 1) := by decide +kernel
theorem d12_reads_48 : decode b12_reads 48 = .ok (.iconst 1, 1) := by decide +kernel
theorem d12_reads_49 : decode b12_reads 49 = .ok (.invokevirtual 149, 3) := by decide +kernel
theorem d12_reads_52 : decode b12_reads 52 = .ok (.iload_n 3, 1) := by decide +kernel
theorem d12_reads_53 : decode b12_reads 53 = .ok (.ireturn, 1) := by decide +kernel
theorem mc12_passes : Cond.code y12_passes b12_passes 2 none ∈ ce_cm := ce_cm_of (List.mem_of_getElem? (i := 1294) (by decide +kernel)) (by decide +kernel)
theorem ml_12_149 : Cond.methodLink cn_12 149 y12_passes ∈ ce_cm := ce_cm_of (List.mem_of_getElem? (i := 1291) (by decide +kernel)) (by decide +kernel)
theorem mi12_passes : Cond.instanceMethod y12_passes ∈ ce_cm := ce_cm_of (List.mem_of_getElem? (i := 1293) (by decide +kernel)) (by decide +kernel)
theorem ms12_passes : Cond.selects cn_12 y12_passes y12_passes ∈ ce_cm := ce_cm_of (List.mem_of_getElem? (i := 35) (by decide +kernel)) (by decide +kernel)
def f12_reads (F : Nat) (x1 : Int32) (x2 : Int32) (h : Hp) : Option (Int32 × Hp) :=
  if (h 68 11) = 0 then
    if (h 68 9) = (2 : Int32) then
      Option.bind (f12_in F (((h 68 10)).toInt64) ((x1).toInt64) ((x2).toInt64) h) (fun o36 =>
        if o36.1 = 0 then
          Option.bind (f12_faults F (2 : Int32) o36.2) (fun o44 =>
            Option.bind (f12_passes F (1 : Int32) o44) (fun o49 =>
              some (h 68 10, o49)))
        else
          Option.bind (f12_passes F (1 : Int32) o36.2) (fun o49 =>
            some (h 68 10, o49)))
    else
      Option.bind (f12_faults F (1 : Int32) h) (fun o24 =>
        Option.bind (f12_passes F (1 : Int32) o24) (fun o49 =>
          some (h 68 10, o49)))
  else
    some (x1, h)
set_option maxRecDepth 20000 in
theorem c12_reads (l : Launch) (D : va_G) (ad : Nat → Nat) (cA : Nat → ClassId) (aK aV : Nat → Nat) (B0 : Nat) (hA : ce_Ad ad B0) (F : Nat) (x1 : Int32) (x2 : Int32)  (h : Hp) (r : Int32 × Hp) (e : f12_reads F x1 x2 h = some r) : ce_Ct l D ad cA B0 (ce_St aK aV B0) y12_reads b12_reads 4 (some .int) 4 88 0 0 [.ref (ad 68), .int x1, .int x2] h (some (.int r.1)) r.2 := by
  refine ce_enter hA (by decide) rfl (Nat.le_of_ble_eq_true rfl) (fun p e0 s m below meth c ls C hH hl => ?_)
  have hl : lv_has ls 4 [(0, .ref (ad 68)), (1, .int x1), (2, .int x2)] := hl
  have hx := C.1
  have hb := C.2.1
  have e : Option.bind _ some = some r := (congrArg (fun z => Option.bind z some) e).trans rfl
  unfold f12_reads at e
  refine lv_aload_n hx hb d12_reads_0 rfl (lv_at hl 0 rfl) ?_
  refine gf_12_112 C hH d12_reads_1 ?_
  refine lv_istore_n (lv' := [(3, .int (h 68 10)), (0, .ref (ad 68)), (1, .int x1), (2, .int x2)]) hx hb d12_reads_4 rfl hl (by decide) rfl (fun ls hl => ?_)
  refine lv_aload_n hx hb d12_reads_5 rfl (lv_at hl 1 rfl) ?_
  refine gf_12_125 C hH d12_reads_6 ?_
  refine lv_if_eq (tgt := 14) hx hb d12_reads_9 (by decide) (fun hc9 => ?_) (fun hc9 => ?_)
  · have e := ce_if1 e hc9
    refine lv_aload_n hx hb d12_reads_14 rfl (lv_at hl 1 rfl) ?_
    refine gf_12_115 C hH d12_reads_15 ?_
    refine lv_iconst (v := (2 : Int32)) hx hb d12_reads_18 (by decide) ?_
    refine lv_icmp_eq (tgt := 30) hx hb d12_reads_19 (by decide) (fun hc19 => ?_) (fun hc19 => ?_)
    · have e := ce_if1 e hc19
      refine lv_iload_n hx hb d12_reads_30 rfl (lv_at hl 0 rfl) ?_
      refine lv_i2l (v := ((h 68 10)).toInt64) hx hb d12_reads_31 rfl ?_
      refine lv_iload_n hx hb d12_reads_32 rfl (lv_at hl 2 rfl) ?_
      refine lv_i2l (v := (x1).toInt64) hx hb d12_reads_33 rfl ?_
      refine lv_iload_n hx hb d12_reads_34 rfl (lv_at hl 3 rfl) ?_
      refine lv_i2l (v := (x2).toInt64) hx hb d12_reads_35 rfl ?_
      obtain ⟨o36, eo36, e⟩ := ce_bd e
      refine ce_callS (As := [.long (((h 68 10)).toInt64), .long ((x1).toInt64), .long ((x2).toInt64)]) (rest := []) C (ce_sok aK aV B0) hH (c12_in l D ad cA aK aV B0 C.2.2.2.2.2.2.1 F (((h 68 10)).toInt64) ((x1).toInt64) ((x2).toInt64)  h o36 eo36) mc12_in ml_12_98 mt12_in mI_12 (n := 3) (by decide) rfl ⟨Nat.le_of_ble_eq_true rfl, Nat.le_of_ble_eq_true rfl⟩ ⟨Nat.le_of_ble_eq_true rfl, Nat.le_of_ble_eq_true rfl⟩ hl.1 rfl (Nat.le_of_ble_eq_true rfl) d12_reads_36 (fun H locs hH => ?_)
      refine W.eq (g2 := F0 m 39 ls [.int o36.1]) rfl ?_
      refine lv_if_ne (tgt := 47) hx hb d12_reads_39 (by decide) (fun hc39 => ?_) (fun hc39 => ?_)
      · have e := ce_if0 e hc39
        refine lv_aload_n hx hb d12_reads_47 rfl (lv_at hl 1 rfl) ?_
        refine lv_iconst (v := (1 : Int32)) hx hb d12_reads_48 (by decide) ?_
        obtain ⟨o49, eo49, e⟩ := ce_bd e
        refine ce_callV (As := [.int (1 : Int32)]) (rest := []) C (ce_sok aK aV B0) hH (c12_passes l D ad cA aK aV B0 C.2.2.2.2.2.2.1 F (1 : Int32)  o36.2 o49 eo49) lo_68.1 lo_68.2.choose_spec rfl rfl mc12_passes ml_12_149 mi12_passes ms12_passes mI_12 (n := 1) (by decide) rfl ⟨Nat.le_of_ble_eq_true rfl, Nat.le_of_ble_eq_true rfl⟩ ⟨Nat.le_of_ble_eq_true rfl, Nat.le_of_ble_eq_true rfl⟩ hl.1 rfl (Nat.le_of_ble_eq_true rfl) d12_reads_49 (fun H locs hH => ?_)
        refine W.eq (g2 := F0 m 52 ls []) rfl ?_
        refine lv_iload_n hx hb d12_reads_52 rfl (lv_at hl 0 rfl) ?_
        exact ce_iretE C (ce_sok aK aV B0) hH e d12_reads_53
      · have e := ce_if1 e hc39
        refine lv_aload_n hx hb d12_reads_42 rfl (lv_at hl 1 rfl) ?_
        refine lv_iconst (v := (2 : Int32)) hx hb d12_reads_43 (by decide) ?_
        obtain ⟨o44, eo44, e⟩ := ce_bd e
        refine ce_callV (As := [.int (2 : Int32)]) (rest := []) C (ce_sok aK aV B0) hH (c12_faults l D ad cA aK aV B0 C.2.2.2.2.2.2.1 F (2 : Int32)  o36.2 o44 eo44) lo_68.1 lo_68.2.choose_spec rfl rfl mc12_faults ml_12_142 mi12_faults ms12_faults mI_12 (n := 1) (by decide) rfl ⟨Nat.le_of_ble_eq_true rfl, Nat.le_of_ble_eq_true rfl⟩ ⟨Nat.le_of_ble_eq_true rfl, Nat.le_of_ble_eq_true rfl⟩ hl.1 rfl (Nat.le_of_ble_eq_true rfl) d12_reads_44 (fun H locs hH => ?_)
        refine W.eq (g2 := F0 m 47 ls []) rfl ?_
        refine lv_aload_n hx hb d12_reads_47 rfl (lv_at hl 1 rfl) ?_
        refine lv_iconst (v := (1 : Int32)) hx hb d12_reads_48 (by decide) ?_
        obtain ⟨o49, eo49, e⟩ := ce_bd e
        refine ce_callV (As := [.int (1 : Int32)]) (rest := []) C (ce_sok aK aV B0) hH (c12_passes l D ad cA aK aV B0 C.2.2.2.2.2.2.1 F (1 : Int32)  o44 o49 eo49) lo_68.1 lo_68.2.choose_spec rfl rfl mc12_passes ml_12_149 mi12_passes ms12_passes mI_12 (n := 1) (by decide) rfl ⟨Nat.le_of_ble_eq_true rfl, Nat.le_of_ble_eq_true rfl⟩ ⟨Nat.le_of_ble_eq_true rfl, Nat.le_of_ble_eq_true rfl⟩ hl.1 rfl (Nat.le_of_ble_eq_true rfl) d12_reads_49 (fun H locs hH => ?_)
        refine W.eq (g2 := F0 m 52 ls []) rfl ?_
        refine lv_iload_n hx hb d12_reads_52 rfl (lv_at hl 0 rfl) ?_
        exact ce_iretE C (ce_sok aK aV B0) hH e d12_reads_53
    · have e := ce_if0 e hc19
      refine lv_aload_n hx hb d12_reads_22 rfl (lv_at hl 1 rfl) ?_
      refine lv_iconst (v := (1 : Int32)) hx hb d12_reads_23 (by decide) ?_
      obtain ⟨o24, eo24, e⟩ := ce_bd e
      refine ce_callV (As := [.int (1 : Int32)]) (rest := []) C (ce_sok aK aV B0) hH (c12_faults l D ad cA aK aV B0 C.2.2.2.2.2.2.1 F (1 : Int32)  h o24 eo24) lo_68.1 lo_68.2.choose_spec rfl rfl mc12_faults ml_12_142 mi12_faults ms12_faults mI_12 (n := 1) (by decide) rfl ⟨Nat.le_of_ble_eq_true rfl, Nat.le_of_ble_eq_true rfl⟩ ⟨Nat.le_of_ble_eq_true rfl, Nat.le_of_ble_eq_true rfl⟩ hl.1 rfl (Nat.le_of_ble_eq_true rfl) d12_reads_24 (fun H locs hH => ?_)
      refine W.eq (g2 := F0 m 27 ls []) rfl ?_
      refine lv_goto (tgt := 47) hx hb d12_reads_27 (by decide) ?_
      refine lv_aload_n hx hb d12_reads_47 rfl (lv_at hl 1 rfl) ?_
      refine lv_iconst (v := (1 : Int32)) hx hb d12_reads_48 (by decide) ?_
      obtain ⟨o49, eo49, e⟩ := ce_bd e
      refine ce_callV (As := [.int (1 : Int32)]) (rest := []) C (ce_sok aK aV B0) hH (c12_passes l D ad cA aK aV B0 C.2.2.2.2.2.2.1 F (1 : Int32)  o24 o49 eo49) lo_68.1 lo_68.2.choose_spec rfl rfl mc12_passes ml_12_149 mi12_passes ms12_passes mI_12 (n := 1) (by decide) rfl ⟨Nat.le_of_ble_eq_true rfl, Nat.le_of_ble_eq_true rfl⟩ ⟨Nat.le_of_ble_eq_true rfl, Nat.le_of_ble_eq_true rfl⟩ hl.1 rfl (Nat.le_of_ble_eq_true rfl) d12_reads_49 (fun H locs hH => ?_)
      refine W.eq (g2 := F0 m 52 ls []) rfl ?_
      refine lv_iload_n hx hb d12_reads_52 rfl (lv_at hl 0 rfl) ?_
      exact ce_iretE C (ce_sok aK aV B0) hH e d12_reads_53
  · have e := ce_if0 e hc9
    refine lv_iload_n hx hb d12_reads_12 rfl (lv_at hl 2 rfl) ?_
    exact ce_iretE C (ce_sok aK aV B0) hH e d12_reads_13
abbrev b12_named : ByteArray := prog_14_method_12_code
def y12_named : MethodName := ⟨cn_12, "named", "(Ljava/lang/String;II)I"⟩
theorem d12_named_0 : decode b12_named 0 = .ok (.aload_n 0, 1) := by decide +kernel
theorem d12_named_1 : decode b12_named 1 = .ok (.aload_n 0, 1) := by decide +kernel
theorem d12_named_2 : decode b12_named 2 = .ok (.getfield 125, 3) := by decide +kernel
theorem d12_named_5 : decode b12_named 5 = .ok (.ifCond .ne 11, 3) := by decide +kernel
theorem d12_named_8 : decode b12_named 8 = .ok (.aload_n 0, 1) := by decide +kernel
theorem d12_named_9 : decode b12_named 9 = .ok (.aload_n 1, 1) := by decide +kernel
theorem d12_named_10 : decode b12_named 10 = .ok (.invokevirtual 153, 3) := by decide +kernel
theorem d12_named_13 : decode b12_named 13 = .ok (.ifCond .eq 7, 3) := by decide +kernel
theorem d12_named_16 : decode b12_named 16 = .ok (.iconst 1, 1) := by decide +kernel
theorem d12_named_17 : decode b12_named 17 = .ok (.goto 4, 3) := by decide +kernel
theorem d12_named_20 : decode b12_named 20 = .ok (.iconst 0, 1) := by decide +kernel
theorem d12_named_21 : decode b12_named 21 = .ok (.invokevirtual 149, 3) := by decide +kernel
theorem d12_named_24 : decode b12_named 24 = .ok (.aload_n 0, 1) := by decide +kernel
theorem d12_named_25 : decode b12_named 25 = .ok (.iload_n 2, 1) := by decide +kernel
theorem d12_named_26 : decode b12_named 26 = .ok (.iload_n 3, 1) := by decide +kernel
theorem d12_named_27 : decode b12_named 27 = .ok (.invokevirtual 157, 3) := by decide +kernel
theorem d12_named_30 : decode b12_named 30 = .ok (.ireturn, 1) := by decide +kernel
theorem mc12_reads : Cond.code y12_reads b12_reads 4 (some .int) ∈ ce_cm := ce_cm_of (List.mem_of_getElem? (i := 1307) (by decide +kernel)) (by decide +kernel)
theorem ml_12_157 : Cond.methodLink cn_12 157 y12_reads ∈ ce_cm := ce_cm_of (List.mem_of_getElem? (i := 1304) (by decide +kernel)) (by decide +kernel)
theorem mi12_reads : Cond.instanceMethod y12_reads ∈ ce_cm := ce_cm_of (List.mem_of_getElem? (i := 1306) (by decide +kernel)) (by decide +kernel)
theorem ms12_reads : Cond.selects cn_12 y12_reads y12_reads ∈ ce_cm := ce_cm_of (List.mem_of_getElem? (i := 38) (by decide +kernel)) (by decide +kernel)
theorem mc12_isWord : Cond.code y12_isWord b12_isWord 4 (some .boolean) ∈ ce_cm := ce_cm_of (List.mem_of_getElem? (i := 1288) (by decide +kernel)) (by decide +kernel)
theorem ml_12_153 : Cond.methodLink cn_12 153 y12_isWord ∈ ce_cm := ce_cm_of (List.mem_of_getElem? (i := 1285) (by decide +kernel)) (by decide +kernel)
theorem mi12_isWord : Cond.instanceMethod y12_isWord ∈ ce_cm := ce_cm_of (List.mem_of_getElem? (i := 1287) (by decide +kernel)) (by decide +kernel)
theorem ms12_isWord : Cond.selects cn_12 y12_isWord y12_isWord ∈ ce_cm := ce_cm_of (List.mem_of_getElem? (i := 34) (by decide +kernel)) (by decide +kernel)
def f12_named (F : Nat) (w1 : Nat) (x2 : Int32) (x3 : Int32) (h : Hp) : Option (Int32 × Hp) :=
  if (h 68 11) = 0 then
    Option.bind (f12_isWord F w1 h) (fun o10 =>
      if o10.1 = 0 then
        Option.bind (f12_passes F (0 : Int32) o10.2) (fun o21 =>
          Option.bind (f12_reads F x2 x3 o21) (fun o27 =>
            some (o27.1, o27.2)))
      else
        Option.bind (f12_passes F (1 : Int32) o10.2) (fun o21 =>
          Option.bind (f12_reads F x2 x3 o21) (fun o27 =>
            some (o27.1, o27.2))))
  else
    Option.bind (f12_passes F (1 : Int32) h) (fun o21 =>
      Option.bind (f12_reads F x2 x3 o21) (fun o27 =>
        some (o27.1, o27.2)))
set_option maxRecDepth 20000 in
theorem c12_named (l : Launch) (D : va_G) (ad : Nat → Nat) (cA : Nat → ClassId) (aK aV : Nat → Nat) (B0 : Nat) (hA : ce_Ad ad B0) (F : Nat) (w1 : Nat) (x2 : Int32) (x3 : Int32) (hw1 : w1 < 9) (h : Hp) (r : Int32 × Hp) (e : f12_named F w1 x2 x3 h = some r) : ce_Ct l D ad cA B0 (ce_St aK aV B0) y12_named b12_named 4 (some .int) 10 244 0 0 [.ref (ad 68), .ref (aK w1), .int x2, .int x3] h (some (.int r.1)) r.2 := by
  refine ce_enter hA (by decide) rfl (Nat.le_of_ble_eq_true rfl) (fun p e0 s m below meth c ls C hH hl => ?_)
  have hl : lv_has ls 4 [(0, .ref (ad 68)), (1, .ref (aK w1)), (2, .int x2), (3, .int x3)] := hl
  have hx := C.1
  have hb := C.2.1
  have e : Option.bind _ some = some r := (congrArg (fun z => Option.bind z some) e).trans rfl
  unfold f12_named at e
  refine lv_aload_n hx hb d12_named_0 rfl (lv_at hl 0 rfl) ?_
  refine lv_aload_n hx hb d12_named_1 rfl (lv_at hl 0 rfl) ?_
  refine gf_12_125 C hH d12_named_2 ?_
  refine lv_if_ne (tgt := 16) hx hb d12_named_5 (by decide) (fun hc5 => ?_) (fun hc5 => ?_)
  · have e := ce_if0 e hc5
    refine lv_iconst (v := (1 : Int32)) hx hb d12_named_16 (by decide) ?_
    refine lv_goto (tgt := 21) hx hb d12_named_17 (by decide) ?_
    obtain ⟨o21, eo21, e⟩ := ce_bd e
    refine ce_callV (As := [.int (1 : Int32)]) (rest := []) C (ce_sok aK aV B0) hH (c12_passes l D ad cA aK aV B0 C.2.2.2.2.2.2.1 F (1 : Int32)  h o21 eo21) lo_68.1 lo_68.2.choose_spec rfl rfl mc12_passes ml_12_149 mi12_passes ms12_passes mI_12 (n := 1) (by decide) rfl ⟨Nat.le_of_ble_eq_true rfl, Nat.le_of_ble_eq_true rfl⟩ ⟨Nat.le_of_ble_eq_true rfl, Nat.le_of_ble_eq_true rfl⟩ hl.1 rfl (Nat.le_of_ble_eq_true rfl) d12_named_21 (fun H locs hH => ?_)
    refine W.eq (g2 := F0 m 24 ls []) rfl ?_
    refine lv_aload_n hx hb d12_named_24 rfl (lv_at hl 0 rfl) ?_
    refine lv_iload_n hx hb d12_named_25 rfl (lv_at hl 2 rfl) ?_
    refine lv_iload_n hx hb d12_named_26 rfl (lv_at hl 3 rfl) ?_
    obtain ⟨o27, eo27, e⟩ := ce_bd e
    refine ce_callV (As := [.int x2, .int x3]) (rest := []) C (ce_sok aK aV B0) hH (c12_reads l D ad cA aK aV B0 C.2.2.2.2.2.2.1 F x2 x3  o21 o27 eo27) lo_68.1 lo_68.2.choose_spec rfl rfl mc12_reads ml_12_157 mi12_reads ms12_reads mI_12 (n := 2) (by decide) rfl ⟨Nat.le_of_ble_eq_true rfl, Nat.le_of_ble_eq_true rfl⟩ ⟨Nat.le_of_ble_eq_true rfl, Nat.le_of_ble_eq_true rfl⟩ hl.1 rfl (Nat.le_of_ble_eq_true rfl) d12_named_27 (fun H locs hH => ?_)
    refine W.eq (g2 := F0 m 30 ls [.int o27.1]) rfl ?_
    exact ce_iretE C (ce_sok aK aV B0) hH e d12_named_30
  · have e := ce_if1 e hc5
    refine lv_aload_n hx hb d12_named_8 rfl (lv_at hl 0 rfl) ?_
    refine lv_aload_n hx hb d12_named_9 rfl (lv_at hl 1 rfl) ?_
    obtain ⟨o10, eo10, e⟩ := ce_bd e
    refine ce_callV (As := [.ref (aK w1)]) (rest := [.ref (ad 68)]) C (ce_sok aK aV B0) hH (c12_isWord l D ad cA aK aV B0 C.2.2.2.2.2.2.1 F w1 hw1 h o10 eo10) lo_68.1 lo_68.2.choose_spec rfl rfl mc12_isWord ml_12_153 mi12_isWord ms12_isWord mI_12 (n := 1) (by decide) rfl ⟨Nat.le_of_ble_eq_true rfl, Nat.le_of_ble_eq_true rfl⟩ ⟨Nat.le_of_ble_eq_true rfl, Nat.le_of_ble_eq_true rfl⟩ hl.1 rfl (Nat.le_of_ble_eq_true rfl) d12_named_10 (fun H locs hH => ?_)
    refine W.eq (g2 := F0 m 13 ls [.int o10.1, .ref (ad 68)]) rfl ?_
    refine lv_if_eq (tgt := 20) hx hb d12_named_13 (by decide) (fun hc13 => ?_) (fun hc13 => ?_)
    · have e := ce_if1 e hc13
      refine lv_iconst (v := (0 : Int32)) hx hb d12_named_20 (by decide) ?_
      obtain ⟨o21, eo21, e⟩ := ce_bd e
      refine ce_callV (As := [.int (0 : Int32)]) (rest := []) C (ce_sok aK aV B0) hH (c12_passes l D ad cA aK aV B0 C.2.2.2.2.2.2.1 F (0 : Int32)  o10.2 o21 eo21) lo_68.1 lo_68.2.choose_spec rfl rfl mc12_passes ml_12_149 mi12_passes ms12_passes mI_12 (n := 1) (by decide) rfl ⟨Nat.le_of_ble_eq_true rfl, Nat.le_of_ble_eq_true rfl⟩ ⟨Nat.le_of_ble_eq_true rfl, Nat.le_of_ble_eq_true rfl⟩ hl.1 rfl (Nat.le_of_ble_eq_true rfl) d12_named_21 (fun H locs hH => ?_)
      refine W.eq (g2 := F0 m 24 ls []) rfl ?_
      refine lv_aload_n hx hb d12_named_24 rfl (lv_at hl 0 rfl) ?_
      refine lv_iload_n hx hb d12_named_25 rfl (lv_at hl 2 rfl) ?_
      refine lv_iload_n hx hb d12_named_26 rfl (lv_at hl 3 rfl) ?_
      obtain ⟨o27, eo27, e⟩ := ce_bd e
      refine ce_callV (As := [.int x2, .int x3]) (rest := []) C (ce_sok aK aV B0) hH (c12_reads l D ad cA aK aV B0 C.2.2.2.2.2.2.1 F x2 x3  o21 o27 eo27) lo_68.1 lo_68.2.choose_spec rfl rfl mc12_reads ml_12_157 mi12_reads ms12_reads mI_12 (n := 2) (by decide) rfl ⟨Nat.le_of_ble_eq_true rfl, Nat.le_of_ble_eq_true rfl⟩ ⟨Nat.le_of_ble_eq_true rfl, Nat.le_of_ble_eq_true rfl⟩ hl.1 rfl (Nat.le_of_ble_eq_true rfl) d12_named_27 (fun H locs hH => ?_)
      refine W.eq (g2 := F0 m 30 ls [.int o27.1]) rfl ?_
      exact ce_iretE C (ce_sok aK aV B0) hH e d12_named_30
    · have e := ce_if0 e hc13
      refine lv_iconst (v := (1 : Int32)) hx hb d12_named_16 (by decide) ?_
      refine lv_goto (tgt := 21) hx hb d12_named_17 (by decide) ?_
      obtain ⟨o21, eo21, e⟩ := ce_bd e
      refine ce_callV (As := [.int (1 : Int32)]) (rest := []) C (ce_sok aK aV B0) hH (c12_passes l D ad cA aK aV B0 C.2.2.2.2.2.2.1 F (1 : Int32)  o10.2 o21 eo21) lo_68.1 lo_68.2.choose_spec rfl rfl mc12_passes ml_12_149 mi12_passes ms12_passes mI_12 (n := 1) (by decide) rfl ⟨Nat.le_of_ble_eq_true rfl, Nat.le_of_ble_eq_true rfl⟩ ⟨Nat.le_of_ble_eq_true rfl, Nat.le_of_ble_eq_true rfl⟩ hl.1 rfl (Nat.le_of_ble_eq_true rfl) d12_named_21 (fun H locs hH => ?_)
      refine W.eq (g2 := F0 m 24 ls []) rfl ?_
      refine lv_aload_n hx hb d12_named_24 rfl (lv_at hl 0 rfl) ?_
      refine lv_iload_n hx hb d12_named_25 rfl (lv_at hl 2 rfl) ?_
      refine lv_iload_n hx hb d12_named_26 rfl (lv_at hl 3 rfl) ?_
      obtain ⟨o27, eo27, e⟩ := ce_bd e
      refine ce_callV (As := [.int x2, .int x3]) (rest := []) C (ce_sok aK aV B0) hH (c12_reads l D ad cA aK aV B0 C.2.2.2.2.2.2.1 F x2 x3  o21 o27 eo27) lo_68.1 lo_68.2.choose_spec rfl rfl mc12_reads ml_12_157 mi12_reads ms12_reads mI_12 (n := 2) (by decide) rfl ⟨Nat.le_of_ble_eq_true rfl, Nat.le_of_ble_eq_true rfl⟩ ⟨Nat.le_of_ble_eq_true rfl, Nat.le_of_ble_eq_true rfl⟩ hl.1 rfl (Nat.le_of_ble_eq_true rfl) d12_named_27 (fun H locs hH => ?_)
      refine W.eq (g2 := F0 m 30 ls [.int o27.1]) rfl ?_
      exact ce_iretE C (ce_sok aK aV B0) hH e d12_named_30
abbrev b12_isKept : ByteArray := prog_14_method_13_code
def y12_isKept : MethodName := ⟨cn_12, "isKept", "()Z"⟩
theorem d12_isKept_0 : decode b12_isKept 0 = .ok (.aload_n 0, 1) := by decide +kernel
theorem d12_isKept_1 : decode b12_isKept 1 = .ok (.ldc 160, 2) := by decide +kernel
theorem d12_isKept_3 : decode b12_isKept 3 = .ok (.invokevirtual 153, 3) := by decide +kernel
theorem d12_isKept_6 : decode b12_isKept 6 = .ok (.ifCond .ne 39, 3) := by decide +kernel
theorem d12_isKept_9 : decode b12_isKept 9 = .ok (.aload_n 0, 1) := by decide +kernel
theorem d12_isKept_10 : decode b12_isKept 10 = .ok (.ldc 161, 2) := by decide +kernel
theorem d12_isKept_12 : decode b12_isKept 12 = .ok (.invokevirtual 153, 3) := by decide +kernel
theorem d12_isKept_15 : decode b12_isKept 15 = .ok (.ifCond .ne 30, 3) := by decide +kernel
theorem d12_isKept_18 : decode b12_isKept 18 = .ok (.aload_n 0, 1) := by decide +kernel
theorem d12_isKept_19 : decode b12_isKept 19 = .ok (.ldc 163, 2) := by decide +kernel
theorem d12_isKept_21 : decode b12_isKept 21 = .ok (.invokevirtual 153, 3) := by decide +kernel
theorem d12_isKept_24 : decode b12_isKept 24 = .ok (.ifCond .ne 21, 3) := by decide +kernel
theorem d12_isKept_27 : decode b12_isKept 27 = .ok (.aload_n 0, 1) := by decide +kernel
theorem d12_isKept_28 : decode b12_isKept 28 = .ok (.ldc 165, 2) := by decide +kernel
theorem d12_isKept_30 : decode b12_isKept 30 = .ok (.invokevirtual 153, 3) := by decide +kernel
theorem d12_isKept_33 : decode b12_isKept 33 = .ok (.ifCond .ne 12, 3) := by decide +kernel
theorem d12_isKept_36 : decode b12_isKept 36 = .ok (.aload_n 0, 1) := by decide +kernel
theorem d12_isKept_37 : decode b12_isKept 37 = .ok (.ldc 167, 2) := by decide +kernel
theorem d12_isKept_39 : decode b12_isKept 39 = .ok (.invokevirtual 153, 3) := by decide +kernel
theorem d12_isKept_42 : decode b12_isKept 42 = .ok (.ifCond .eq 7, 3) := by decide +kernel
theorem d12_isKept_45 : decode b12_isKept 45 = .ok (.iconst 1, 1) := by decide +kernel
theorem d12_isKept_46 : decode b12_isKept 46 = .ok (.goto 4, 3) := by decide +kernel
theorem d12_isKept_49 : decode b12_isKept 49 = .ok (.iconst 0, 1) := by decide +kernel
theorem d12_isKept_50 : decode b12_isKept 50 = .ok (.ireturn, 1) := by decide +kernel
def f12_isKept (F : Nat)  (h : Hp) : Option (Int32 × Hp) :=
  Option.bind (f12_isWord F 0 h) (fun o3 =>
    if o3.1 = 0 then
      Option.bind (f12_isWord F 3 o3.2) (fun o12 =>
        if o12.1 = 0 then
          Option.bind (f12_isWord F 4 o12.2) (fun o21 =>
            if o21.1 = 0 then
              Option.bind (f12_isWord F 5 o21.2) (fun o30 =>
                if o30.1 = 0 then
                  Option.bind (f12_isWord F 6 o30.2) (fun o39 =>
                    if o39.1 = 0 then
                      some ((0 : Int32), o39.2)
                    else
                      some ((1 : Int32), o39.2))
                else
                  some ((1 : Int32), o30.2))
            else
              some ((1 : Int32), o21.2))
        else
          some ((1 : Int32), o12.2))
    else
      some ((1 : Int32), o3.2))
set_option maxRecDepth 20000 in
theorem c12_isKept (l : Launch) (D : va_G) (ad : Nat → Nat) (cA : Nat → ClassId) (aK aV : Nat → Nat) (B0 : Nat) (hA : ce_Ad ad B0) (F : Nat)   (h : Hp) (r : Int32 × Hp) (e : f12_isKept F  h = some r) : ce_Ct l D ad cA B0 (ce_St aK aV B0) y12_isKept b12_isKept 1 (some .boolean) 10 244 0 0 [.ref (ad 68)] h (some (.int r.1)) r.2 := by
  refine ce_enter hA (by decide) rfl (Nat.le_of_ble_eq_true rfl) (fun p e0 s m below meth c ls C hH hl => ?_)
  have hl : lv_has ls 1 [(0, .ref (ad 68))] := hl
  have hx := C.1
  have hb := C.2.1
  have e : Option.bind _ some = some r := (congrArg (fun z => Option.bind z some) e).trans rfl
  unfold f12_isKept at e
  refine lv_aload_n hx hb d12_isKept_0 rfl (lv_at hl 0 rfl) ?_
  refine va_ldcS hx hb C.2.2.2.1 (ce_srR C.2.2.2.2.2.2.2.2.2.2 9 rfl) d12_isKept_1 ?_
  obtain ⟨o3, eo3, e⟩ := ce_bd e
  refine ce_callV (As := [.ref (aK 0)]) (rest := []) C (ce_sok aK aV B0) hH (c12_isWord l D ad cA aK aV B0 C.2.2.2.2.2.2.1 F 0 (by decide) h o3 eo3) lo_68.1 lo_68.2.choose_spec rfl rfl mc12_isWord ml_12_153 mi12_isWord ms12_isWord mI_12 (n := 1) (by decide) rfl ⟨Nat.le_of_ble_eq_true rfl, Nat.le_of_ble_eq_true rfl⟩ ⟨Nat.le_of_ble_eq_true rfl, Nat.le_of_ble_eq_true rfl⟩ hl.1 rfl (Nat.le_of_ble_eq_true rfl) d12_isKept_3 (fun H locs hH => ?_)
  refine W.eq (g2 := F0 m 6 ls [.int o3.1]) rfl ?_
  refine lv_if_ne (tgt := 45) hx hb d12_isKept_6 (by decide) (fun hc6 => ?_) (fun hc6 => ?_)
  · have e := ce_if0 e hc6
    refine lv_iconst (v := (1 : Int32)) hx hb d12_isKept_45 (by decide) ?_
    refine lv_goto (tgt := 50) hx hb d12_isKept_46 (by decide) ?_
    exact ce_zretE C (ce_sok aK aV B0) hH (Or.inr rfl) e d12_isKept_50
  · have e := ce_if1 e hc6
    refine lv_aload_n hx hb d12_isKept_9 rfl (lv_at hl 0 rfl) ?_
    refine va_ldcS hx hb C.2.2.2.1 (ce_srR C.2.2.2.2.2.2.2.2.2.2 12 rfl) d12_isKept_10 ?_
    obtain ⟨o12, eo12, e⟩ := ce_bd e
    refine ce_callV (As := [.ref (aK 3)]) (rest := []) C (ce_sok aK aV B0) hH (c12_isWord l D ad cA aK aV B0 C.2.2.2.2.2.2.1 F 3 (by decide) o3.2 o12 eo12) lo_68.1 lo_68.2.choose_spec rfl rfl mc12_isWord ml_12_153 mi12_isWord ms12_isWord mI_12 (n := 1) (by decide) rfl ⟨Nat.le_of_ble_eq_true rfl, Nat.le_of_ble_eq_true rfl⟩ ⟨Nat.le_of_ble_eq_true rfl, Nat.le_of_ble_eq_true rfl⟩ hl.1 rfl (Nat.le_of_ble_eq_true rfl) d12_isKept_12 (fun H locs hH => ?_)
    refine W.eq (g2 := F0 m 15 ls [.int o12.1]) rfl ?_
    refine lv_if_ne (tgt := 45) hx hb d12_isKept_15 (by decide) (fun hc15 => ?_) (fun hc15 => ?_)
    · have e := ce_if0 e hc15
      refine lv_iconst (v := (1 : Int32)) hx hb d12_isKept_45 (by decide) ?_
      refine lv_goto (tgt := 50) hx hb d12_isKept_46 (by decide) ?_
      exact ce_zretE C (ce_sok aK aV B0) hH (Or.inr rfl) e d12_isKept_50
    · have e := ce_if1 e hc15
      refine lv_aload_n hx hb d12_isKept_18 rfl (lv_at hl 0 rfl) ?_
      refine va_ldcS hx hb C.2.2.2.1 (ce_srR C.2.2.2.2.2.2.2.2.2.2 13 rfl) d12_isKept_19 ?_
      obtain ⟨o21, eo21, e⟩ := ce_bd e
      refine ce_callV (As := [.ref (aK 4)]) (rest := []) C (ce_sok aK aV B0) hH (c12_isWord l D ad cA aK aV B0 C.2.2.2.2.2.2.1 F 4 (by decide) o12.2 o21 eo21) lo_68.1 lo_68.2.choose_spec rfl rfl mc12_isWord ml_12_153 mi12_isWord ms12_isWord mI_12 (n := 1) (by decide) rfl ⟨Nat.le_of_ble_eq_true rfl, Nat.le_of_ble_eq_true rfl⟩ ⟨Nat.le_of_ble_eq_true rfl, Nat.le_of_ble_eq_true rfl⟩ hl.1 rfl (Nat.le_of_ble_eq_true rfl) d12_isKept_21 (fun H locs hH => ?_)
      refine W.eq (g2 := F0 m 24 ls [.int o21.1]) rfl ?_
      refine lv_if_ne (tgt := 45) hx hb d12_isKept_24 (by decide) (fun hc24 => ?_) (fun hc24 => ?_)
      · have e := ce_if0 e hc24
        refine lv_iconst (v := (1 : Int32)) hx hb d12_isKept_45 (by decide) ?_
        refine lv_goto (tgt := 50) hx hb d12_isKept_46 (by decide) ?_
        exact ce_zretE C (ce_sok aK aV B0) hH (Or.inr rfl) e d12_isKept_50
      · have e := ce_if1 e hc24
        refine lv_aload_n hx hb d12_isKept_27 rfl (lv_at hl 0 rfl) ?_
        refine va_ldcS hx hb C.2.2.2.1 (ce_srR C.2.2.2.2.2.2.2.2.2.2 14 rfl) d12_isKept_28 ?_
        obtain ⟨o30, eo30, e⟩ := ce_bd e
        refine ce_callV (As := [.ref (aK 5)]) (rest := []) C (ce_sok aK aV B0) hH (c12_isWord l D ad cA aK aV B0 C.2.2.2.2.2.2.1 F 5 (by decide) o21.2 o30 eo30) lo_68.1 lo_68.2.choose_spec rfl rfl mc12_isWord ml_12_153 mi12_isWord ms12_isWord mI_12 (n := 1) (by decide) rfl ⟨Nat.le_of_ble_eq_true rfl, Nat.le_of_ble_eq_true rfl⟩ ⟨Nat.le_of_ble_eq_true rfl, Nat.le_of_ble_eq_true rfl⟩ hl.1 rfl (Nat.le_of_ble_eq_true rfl) d12_isKept_30 (fun H locs hH => ?_)
        refine W.eq (g2 := F0 m 33 ls [.int o30.1]) rfl ?_
        refine lv_if_ne (tgt := 45) hx hb d12_isKept_33 (by decide) (fun hc33 => ?_) (fun hc33 => ?_)
        · have e := ce_if0 e hc33
          refine lv_iconst (v := (1 : Int32)) hx hb d12_isKept_45 (by decide) ?_
          refine lv_goto (tgt := 50) hx hb d12_isKept_46 (by decide) ?_
          exact ce_zretE C (ce_sok aK aV B0) hH (Or.inr rfl) e d12_isKept_50
        · have e := ce_if1 e hc33
          refine lv_aload_n hx hb d12_isKept_36 rfl (lv_at hl 0 rfl) ?_
          refine va_ldcS hx hb C.2.2.2.1 (ce_srR C.2.2.2.2.2.2.2.2.2.2 15 rfl) d12_isKept_37 ?_
          obtain ⟨o39, eo39, e⟩ := ce_bd e
          refine ce_callV (As := [.ref (aK 6)]) (rest := []) C (ce_sok aK aV B0) hH (c12_isWord l D ad cA aK aV B0 C.2.2.2.2.2.2.1 F 6 (by decide) o30.2 o39 eo39) lo_68.1 lo_68.2.choose_spec rfl rfl mc12_isWord ml_12_153 mi12_isWord ms12_isWord mI_12 (n := 1) (by decide) rfl ⟨Nat.le_of_ble_eq_true rfl, Nat.le_of_ble_eq_true rfl⟩ ⟨Nat.le_of_ble_eq_true rfl, Nat.le_of_ble_eq_true rfl⟩ hl.1 rfl (Nat.le_of_ble_eq_true rfl) d12_isKept_39 (fun H locs hH => ?_)
          refine W.eq (g2 := F0 m 42 ls [.int o39.1]) rfl ?_
          refine lv_if_eq (tgt := 49) hx hb d12_isKept_42 (by decide) (fun hc42 => ?_) (fun hc42 => ?_)
          · have e := ce_if1 e hc42
            refine lv_iconst (v := (0 : Int32)) hx hb d12_isKept_49 (by decide) ?_
            exact ce_zretE C (ce_sok aK aV B0) hH (Or.inl rfl) e d12_isKept_50
          · have e := ce_if0 e hc42
            refine lv_iconst (v := (1 : Int32)) hx hb d12_isKept_45 (by decide) ?_
            refine lv_goto (tgt := 50) hx hb d12_isKept_46 (by decide) ?_
            exact ce_zretE C (ce_sok aK aV B0) hH (Or.inr rfl) e d12_isKept_50
abbrev b12_nodeHere : ByteArray := prog_14_method_14_code
def y12_nodeHere : MethodName := ⟨cn_12, "nodeHere", "()I"⟩
theorem d12_nodeHere_0 : decode b12_nodeHere 0 = .ok (.iconst 0, 1) := by decide +kernel
theorem d12_nodeHere_1 : decode b12_nodeHere 1 = .ok (.istore_n 1, 1) := by decide +kernel
theorem d12_nodeHere_2 : decode b12_nodeHere 2 = .ok (.iload_n 1, 1) := by decide +kernel
theorem d12_nodeHere_3 : decode b12_nodeHere 3 = .ok (.aload_n 0, 1) := by decide +kernel
theorem d12_nodeHere_4 : decode b12_nodeHere 4 = .ok (.getfield 7, 3) := by decide +kernel
theorem d12_nodeHere_7 : decode b12_nodeHere 7 = .ok (.iconst 2, 1) := by decide +kernel
theorem d12_nodeHere_8 : decode b12_nodeHere 8 = .ok (.iaload, 1) := by decide +kernel
theorem d12_nodeHere_9 : decode b12_nodeHere 9 = .ok (.if_icmp .ge 94, 3) := by decide +kernel
theorem d12_nodeHere_12 : decode b12_nodeHere 12 = .ok (.aload_n 0, 1) := by decide +kernel
theorem d12_nodeHere_13 : decode b12_nodeHere 13 = .ok (.getfield 29, 3) := by decide +kernel
theorem d12_nodeHere_16 : decode b12_nodeHere 16 = .ok (.iload_n 1, 1) := by decide +kernel
theorem d12_nodeHere_17 : decode b12_nodeHere 17 = .ok (.iaload, 1) := by decide +kernel
theorem d12_nodeHere_18 : decode b12_nodeHere 18 = .ok (.aload_n 0, 1) := by decide +kernel
theorem d12_nodeHere_19 : decode b12_nodeHere 19 = .ok (.getfield 102, 3) := by decide +kernel
theorem d12_nodeHere_22 : decode b12_nodeHere 22 = .ok (.aload_n 0, 1) := by decide +kernel
theorem d12_nodeHere_23 : decode b12_nodeHere 23 = .ok (.getfield 109, 3) := by decide +kernel
theorem d12_nodeHere_26 : decode b12_nodeHere 26 = .ok (.isub, 1) := by decide +kernel
theorem d12_nodeHere_27 : decode b12_nodeHere 27 = .ok (.if_icmp .ne 7, 3) := by decide +kernel
theorem d12_nodeHere_30 : decode b12_nodeHere 30 = .ok (.iconst 1, 1) := by decide +kernel
theorem d12_nodeHere_31 : decode b12_nodeHere 31 = .ok (.goto 4, 3) := by decide +kernel
theorem d12_nodeHere_34 : decode b12_nodeHere 34 = .ok (.iconst 0, 1) := by decide +kernel
theorem d12_nodeHere_35 : decode b12_nodeHere 35 = .ok (.istore_n 2, 1) := by decide +kernel
theorem d12_nodeHere_36 : decode b12_nodeHere 36 = .ok (.iconst 0, 1) := by decide +kernel
theorem d12_nodeHere_37 : decode b12_nodeHere 37 = .ok (.istore_n 3, 1) := by decide +kernel
theorem d12_nodeHere_38 : decode b12_nodeHere 38 = .ok (.iload_n 3, 1) := by decide +kernel
theorem d12_nodeHere_39 : decode b12_nodeHere 39 = .ok (.aload_n 0, 1) := by decide +kernel
theorem d12_nodeHere_40 : decode b12_nodeHere 40 = .ok (.getfield 29, 3) := by decide +kernel
theorem d12_nodeHere_43 : decode b12_nodeHere 43 = .ok (.iload_n 1, 1) := by decide +kernel
theorem d12_nodeHere_44 : decode b12_nodeHere 44 = .ok (.iaload, 1) := by decide +kernel
theorem d12_nodeHere_45 : decode b12_nodeHere 45 = .ok (.if_icmp .ge 46, 3) := by decide +kernel
theorem d12_nodeHere_48 : decode b12_nodeHere 48 = .ok (.iload_n 2, 1) := by decide +kernel
theorem d12_nodeHere_49 : decode b12_nodeHere 49 = .ok (.ifCond .eq 42, 3) := by decide +kernel
theorem d12_nodeHere_52 : decode b12_nodeHere 52 = .ok (.aload_n 0, 1) := by decide +kernel
theorem d12_nodeHere_53 : decode b12_nodeHere 53 = .ok (.getfield 19, 3) := by decide +kernel
theorem d12_nodeHere_56 : decode b12_nodeHere 56 = .ok (.aload_n 0, 1) := by decide +kernel
theorem d12_nodeHere_57 : decode b12_nodeHere 57 = .ok (.getfield 26, 3) := by decide +kernel
theorem d12_nodeHere_60 : decode b12_nodeHere 60 = .ok (.iload_n 1, 1) := by decide +kernel
theorem d12_nodeHere_61 : decode b12_nodeHere 61 = .ok (.iaload, 1) := by decide +kernel
theorem d12_nodeHere_62 : decode b12_nodeHere 62 = .ok (.iload_n 3, 1) := by decide +kernel
theorem d12_nodeHere_63 : decode b12_nodeHere 63 = .ok (.iadd, 1) := by decide +kernel
theorem d12_nodeHere_64 : decode b12_nodeHere 64 = .ok (.iaload, 1) := by decide +kernel
theorem d12_nodeHere_65 : decode b12_nodeHere 65 = .ok (.aload_n 0, 1) := by decide +kernel
theorem d12_nodeHere_66 : decode b12_nodeHere 66 = .ok (.getfield 19, 3) := by decide +kernel
theorem d12_nodeHere_69 : decode b12_nodeHere 69 = .ok (.aload_n 0, 1) := by decide +kernel
theorem d12_nodeHere_70 : decode b12_nodeHere 70 = .ok (.getfield 109, 3) := by decide +kernel
theorem d12_nodeHere_73 : decode b12_nodeHere 73 = .ok (.iload_n 3, 1) := by decide +kernel
theorem d12_nodeHere_74 : decode b12_nodeHere 74 = .ok (.iadd, 1) := by decide +kernel
theorem d12_nodeHere_75 : decode b12_nodeHere 75 = .ok (.iaload, 1) := by decide +kernel
theorem d12_nodeHere_76 : decode b12_nodeHere 76 = .ok (.if_icmp .ne 7, 3) := by decide +kernel
theorem d12_nodeHere_79 : decode b12_nodeHere 79 = .ok (.iconst 1, 1) := by decide +kernel
theorem d12_nodeHere_80 : decode b12_nodeHere 80 = .ok (.goto 4, 3) := by decide +kernel
theorem d12_nodeHere_83 : decode b12_nodeHere 83 = .ok (.iconst 0, 1) := by decide +kernel
theorem d12_nodeHere_84 : decode b12_nodeHere 84 = .ok (.istore_n 2, 1) := by decide +kernel
theorem d12_nodeHere_85 : decode b12_nodeHere 85 = .ok (.iinc 3 1, 3) := by decide +kernel
theorem d12_nodeHere_88 : decode b12_nodeHere 88 = .ok (.goto (-50), 3) := by decide +kernel
theorem d12_nodeHere_91 : decode b12_nodeHere 91 = .ok (.iload_n 2, 1) := by decide +kernel
theorem d12_nodeHere_92 : decode b12_nodeHere 92 = .ok (.ifCond .eq 5, 3) := by decide +kernel
theorem d12_nodeHere_95 : decode b12_nodeHere 95 = .ok (.iload_n 1, 1) := by decide +kernel
theorem d12_nodeHere_96 : decode b12_nodeHere 96 = .ok (.ireturn, 1) := by decide +kernel
theorem d12_nodeHere_97 : decode b12_nodeHere 97 = .ok (.iinc 1 1, 3) := by decide +kernel
theorem d12_nodeHere_100 : decode b12_nodeHere 100 = .ok (.goto (-98), 3) := by decide +kernel
theorem d12_nodeHere_103 : decode b12_nodeHere 103 = .ok (.iconst (-1), 1) := by decide +kernel
theorem d12_nodeHere_104 : decode b12_nodeHere 104 = .ok (.ireturn, 1) := by decide +kernel
theorem fl_12_7 : Cond.fieldLink cn_12 7 (ft_12 0).1 (ft_12 0).2.1 (ft_12 0).2.2.1 ∈ ce_cm := ce_cm_of (List.mem_of_getElem? (i := 1121) (by decide +kernel)) (by decide +kernel)
theorem gf_12_7 (C : ce_Cx p s m args c meth cc nL ret cn_12 D ad cA B0 (ce_St aK aV B0)) (hH : ce_H D ad cA B0 X s h H locs) (hdg : decode cc pc = .ok (.getfield 7, 3)) (kk : W p l e0 R s m args below meth c H locs cells slots Q (F0 m (pc + 3) ls (.ref (ad 69) :: rest))) : W p l e0 R s m args below meth c H locs cells slots Q (F0 m pc ls (.ref (ad 68) :: rest)) := by
  exact ce_get C hH (k := 68) (ci := 12) (j := 0) (N := 43) (sj := some (some 69)) (by decide) rfl rfl fw_12 (by decide) fl_12_7 rfl hdg kk
theorem lc_69 : 69 < 96 ∧ ce_lay 69 = .inl (0, 125) := ⟨by decide, rfl⟩
theorem fl_12_29 : Cond.fieldLink cn_12 29 (ft_12 14).1 (ft_12 14).2.1 (ft_12 14).2.2.1 ∈ ce_cm := ce_cm_of (List.mem_of_getElem? (i := 1135) (by decide +kernel)) (by decide +kernel)
theorem gf_12_29 (C : ce_Cx p s m args c meth cc nL ret cn_12 D ad cA B0 (ce_St aK aV B0)) (hH : ce_H D ad cA B0 X s h H locs) (hdg : decode cc pc = .ok (.getfield 29, 3)) (kk : W p l e0 R s m args below meth c H locs cells slots Q (F0 m (pc + 3) ls (.ref (ad 74) :: rest))) : W p l e0 R s m args below meth c H locs cells slots Q (F0 m pc ls (.ref (ad 68) :: rest)) := by
  exact ce_get C hH (k := 68) (ci := 12) (j := 14) (N := 43) (sj := some (some 74)) (by decide) rfl rfl fw_12 (by decide) fl_12_29 rfl hdg kk
theorem lc_74 : 74 < 96 ∧ ce_lay 74 = .inl (0, 10) := ⟨by decide, rfl⟩
theorem fl_12_26 : Cond.fieldLink cn_12 26 (ft_12 13).1 (ft_12 13).2.1 (ft_12 13).2.2.1 ∈ ce_cm := ce_cm_of (List.mem_of_getElem? (i := 1134) (by decide +kernel)) (by decide +kernel)
theorem gf_12_26 (C : ce_Cx p s m args c meth cc nL ret cn_12 D ad cA B0 (ce_St aK aV B0)) (hH : ce_H D ad cA B0 X s h H locs) (hdg : decode cc pc = .ok (.getfield 26, 3)) (kk : W p l e0 R s m args below meth c H locs cells slots Q (F0 m (pc + 3) ls (.ref (ad 73) :: rest))) : W p l e0 R s m args below meth c H locs cells slots Q (F0 m pc ls (.ref (ad 68) :: rest)) := by
  exact ce_get C hH (k := 68) (ci := 12) (j := 13) (N := 43) (sj := some (some 73)) (by decide) rfl rfl fw_12 (by decide) fl_12_26 rfl hdg kk
theorem lc_73 : 73 < 96 ∧ ce_lay 73 = .inl (0, 10) := ⟨by decide, rfl⟩
def f12_nodeHere_b38 (F : Nat) (x1 : Int32) (x2 : Int32) (x3 : Int32) (h : Hp) : Option ((Int32 × Int32 × Hp) ⊕ (Int32 × Hp)) :=
  if ce_in x1 10 = true then
    if (h 74 (x1).toNatClampNeg) ≤ x3 then
      some (.inr (x2, h))
    else
      if x2 = 0 then
        some (.inr (x2, h))
      else
        if ce_in x1 10 = true then
          if ce_in ((h 73 (x1).toNatClampNeg) + x3) 700 = true then
            if ce_in ((h 68 8) + x3) 700 = true then
              if (h 72 (((h 73 (x1).toNatClampNeg) + x3)).toNatClampNeg) = (h 72 (((h 68 8) + x3)).toNatClampNeg) then
                some (.inl ((1 : Int32), x3 + (1 : Int32), h))
              else
                some (.inl ((0 : Int32), x3 + (1 : Int32), h))
            else none
          else none
        else none
  else none
set_option maxRecDepth 20000 in
theorem l12_nodeHere_38 (C : ce_Cx p s m args c meth b12_nodeHere 4 (some .int) cn_12 D ad cA B0 (ce_St aK aV B0)) (F : Nat) (x1 : Int32)  (r : Int32 × Hp) (g : (Int32 × Hp) → Option (Int32 × Hp)) (hx : ∀ (x2 : Int32) (h : Hp) (H : Heap) (locs : List Loc) (ls : Array Slot), ce_H D ad cA B0 [] s h H locs → lv_has ls 4 [(0, .ref (ad 68)), (1, .int x1), (2, .int x2)] → g (x2, h) = some r → W p l e0 { frames := 0, cells := 0, slots := 0, locals := 0 } s m args below meth c H locs 0 0 (MQ below (ce_Q D ad cA B0 (ce_St aK aV B0) (some (.int r.1)) r.2) args s 0 0 (fun q => B0 ≤ q)) (F0 m 91 ls [])) : ∀ (n : Nat) (x2 : Int32) (x3 : Int32) (h : Hp) (H : Heap) (locs : List Loc) (ls : Array Slot), ce_H D ad cA B0 [] s h H locs → lv_has ls 4 [(0, .ref (ad 68)), (1, .int x1), (2, .int x2), (3, .int x3)] → Option.bind (ce_it (fun (st : Int32 × Int32 × Hp) => f12_nodeHere_b38 F x1 st.1 st.2.1 st.2.2) n (x2, x3, h)) g = some r → W p l e0 { frames := 0, cells := 0, slots := 0, locals := 0 } s m args below meth c H locs 0 0 (MQ below (ce_Q D ad cA B0 (ce_St aK aV B0) (some (.int r.1)) r.2) args s 0 0 (fun q => B0 ≤ q)) (F0 m 38 ls []) := by
  intro n
  induction n with
  | zero =>
    intro x2 x3 h H locs ls hH hl e
    exact absurd e (fun z => by cases z)
  | succ n ih =>
    intro x2 x3 h H locs ls hH hl e
    have hx9 := C.1
    have hb := C.2.1
    have e : Option.bind (f12_nodeHere_b38 F x1 x2 x3 h) _ = some r := ce_it_bd e
    unfold f12_nodeHere_b38 at e
    refine lv_iload_n hx9 hb d12_nodeHere_38 rfl (lv_at hl 3 rfl) ?_
    refine lv_aload_n hx9 hb d12_nodeHere_39 rfl (lv_at hl 0 rfl) ?_
    refine gf_12_29 C hH d12_nodeHere_40 ?_
    refine lv_iload_n hx9 hb d12_nodeHere_43 rfl (lv_at hl 1 rfl) ?_
    obtain ⟨hi44, e⟩ := ce_gd e
    refine ce_iald C hH lc_74.1 lc_74.2 (ce_in_vp hi44) d12_nodeHere_44 ?_
    refine lv_icmp_ge (tgt := 91) hx9 hb d12_nodeHere_45 (by decide) (fun hc45 => ?_) (fun hc45 => ?_)
    · have e := ce_if1 e hc45
      exact hx x2 h _ _ _ hH (lv_sub hl [0, 1, 2] rfl) e
    · have e := ce_if0 e hc45
      refine lv_iload_n hx9 hb d12_nodeHere_48 rfl (lv_at hl 2 rfl) ?_
      refine lv_if_eq (tgt := 91) hx9 hb d12_nodeHere_49 (by decide) (fun hc49 => ?_) (fun hc49 => ?_)
      · have e := ce_if1 e hc49
        exact hx x2 h _ _ _ hH (lv_sub hl [0, 1, 2] rfl) e
      · have e := ce_if0 e hc49
        refine lv_aload_n hx9 hb d12_nodeHere_52 rfl (lv_at hl 0 rfl) ?_
        refine gf_12_19 C hH d12_nodeHere_53 ?_
        refine lv_aload_n hx9 hb d12_nodeHere_56 rfl (lv_at hl 0 rfl) ?_
        refine gf_12_26 C hH d12_nodeHere_57 ?_
        refine lv_iload_n hx9 hb d12_nodeHere_60 rfl (lv_at hl 1 rfl) ?_
        obtain ⟨hi61, e⟩ := ce_gd e
        refine ce_iald C hH lc_73.1 lc_73.2 (ce_in_vp hi61) d12_nodeHere_61 ?_
        refine lv_iload_n hx9 hb d12_nodeHere_62 rfl (lv_at hl 3 rfl) ?_
        refine lv_iadd hx9 hb d12_nodeHere_63 ?_
        obtain ⟨hi64, e⟩ := ce_gd e
        refine ce_iald C hH lc_72.1 lc_72.2 (ce_in_vp hi64) d12_nodeHere_64 ?_
        refine lv_aload_n hx9 hb d12_nodeHere_65 rfl (lv_at hl 0 rfl) ?_
        refine gf_12_19 C hH d12_nodeHere_66 ?_
        refine lv_aload_n hx9 hb d12_nodeHere_69 rfl (lv_at hl 0 rfl) ?_
        refine gf_12_109 C hH d12_nodeHere_70 ?_
        refine lv_iload_n hx9 hb d12_nodeHere_73 rfl (lv_at hl 3 rfl) ?_
        refine lv_iadd hx9 hb d12_nodeHere_74 ?_
        obtain ⟨hi75, e⟩ := ce_gd e
        refine ce_iald C hH lc_72.1 lc_72.2 (ce_in_vp hi75) d12_nodeHere_75 ?_
        refine lv_icmp_ne (tgt := 83) hx9 hb d12_nodeHere_76 (by decide) (fun hc76 => ?_) (fun hc76 => ?_)
        · have e := ce_if0 e hc76
          refine lv_iconst (v := (0 : Int32)) hx9 hb d12_nodeHere_83 (by decide) ?_
          refine lv_istore_n (lv' := [(2, .int (0 : Int32)), (0, .ref (ad 68)), (1, .int x1), (3, .int x3)]) hx9 hb d12_nodeHere_84 rfl hl (by decide) rfl (fun ls hl => ?_)
          refine lv_iinc (v := x3 + (1 : Int32)) (lv' := [(3, .int (x3 + (1 : Int32))), (2, .int (0 : Int32)), (0, .ref (ad 68)), (1, .int x1)]) hx9 hb d12_nodeHere_85 hl (k := 3) rfl rfl (by decide) rfl (fun ls hl => ?_)
          refine lv_goto (tgt := 38) hx9 hb d12_nodeHere_88 (by decide) ?_
          exact ih (0 : Int32) (x3 + (1 : Int32)) h _ _ _ hH (lv_sub hl [2, 3, 1, 0] rfl) e
        · have e := ce_if1 e hc76
          refine lv_iconst (v := (1 : Int32)) hx9 hb d12_nodeHere_79 (by decide) ?_
          refine lv_goto (tgt := 84) hx9 hb d12_nodeHere_80 (by decide) ?_
          refine lv_istore_n (lv' := [(2, .int (1 : Int32)), (0, .ref (ad 68)), (1, .int x1), (3, .int x3)]) hx9 hb d12_nodeHere_84 rfl hl (by decide) rfl (fun ls hl => ?_)
          refine lv_iinc (v := x3 + (1 : Int32)) (lv' := [(3, .int (x3 + (1 : Int32))), (2, .int (1 : Int32)), (0, .ref (ad 68)), (1, .int x1)]) hx9 hb d12_nodeHere_85 hl (k := 3) rfl rfl (by decide) rfl (fun ls hl => ?_)
          refine lv_goto (tgt := 38) hx9 hb d12_nodeHere_88 (by decide) ?_
          exact ih (1 : Int32) (x3 + (1 : Int32)) h _ _ _ hH (lv_sub hl [2, 3, 1, 0] rfl) e
def f12_nodeHere_b2 (F : Nat) (x1 : Int32) (h : Hp) : Option ((Int32 × Hp) ⊕ ((Int32 × Hp) ⊕ (Hp))) :=
  if (h 69 ((2 : Int32)).toNatClampNeg) ≤ x1 then
    some (.inr (.inr h))
  else
    if ce_in x1 10 = true then
      if (h 74 (x1).toNatClampNeg) = ((h 68 7) - (h 68 8)) then
        Option.bind (ce_it (fun (st : Int32 × Int32 × Hp) => f12_nodeHere_b38 F x1 st.1 st.2.1 st.2.2) F ((1 : Int32), (0 : Int32), h)) (fun o38 =>
          if o38.1 = 0 then
            some (.inl (x1 + (1 : Int32), o38.2))
          else
            some (.inr (.inl (x1, o38.2))))
      else
        Option.bind (ce_it (fun (st : Int32 × Int32 × Hp) => f12_nodeHere_b38 F x1 st.1 st.2.1 st.2.2) F ((0 : Int32), (0 : Int32), h)) (fun o38 =>
          if o38.1 = 0 then
            some (.inl (x1 + (1 : Int32), o38.2))
          else
            some (.inr (.inl (x1, o38.2))))
    else none
set_option maxRecDepth 20000 in
theorem l12_nodeHere_2 (C : ce_Cx p s m args c meth b12_nodeHere 4 (some .int) cn_12 D ad cA B0 (ce_St aK aV B0)) (F : Nat)   (r : Int32 × Hp) (g : ((Int32 × Hp) ⊕ (Hp)) → Option (Int32 × Hp)) (hx : ∀  (h : Hp) (H : Heap) (locs : List Loc) (ls : Array Slot), ce_H D ad cA B0 [] s h H locs → lv_has ls 4 [] → g (.inr h) = some r → W p l e0 { frames := 0, cells := 0, slots := 0, locals := 0 } s m args below meth c H locs 0 0 (MQ below (ce_Q D ad cA B0 (ce_St aK aV B0) (some (.int r.1)) r.2) args s 0 0 (fun q => B0 ≤ q)) (F0 m 103 ls [])) (he : ∀ z, g (.inl z) = some z) : ∀ (n : Nat) (x1 : Int32) (h : Hp) (H : Heap) (locs : List Loc) (ls : Array Slot), ce_H D ad cA B0 [] s h H locs → lv_has ls 4 [(0, .ref (ad 68)), (1, .int x1)] → Option.bind (ce_it (fun (st : Int32 × Hp) => f12_nodeHere_b2 F  st.1 st.2) n (x1, h)) g = some r → W p l e0 { frames := 0, cells := 0, slots := 0, locals := 0 } s m args below meth c H locs 0 0 (MQ below (ce_Q D ad cA B0 (ce_St aK aV B0) (some (.int r.1)) r.2) args s 0 0 (fun q => B0 ≤ q)) (F0 m 2 ls []) := by
  intro n
  induction n with
  | zero =>
    intro x1 h H locs ls hH hl e
    exact absurd e (fun z => by cases z)
  | succ n ih =>
    intro x1 h H locs ls hH hl e
    have hx9 := C.1
    have hb := C.2.1
    have e : Option.bind (f12_nodeHere_b2 F  x1 h) _ = some r := ce_it_bd e
    unfold f12_nodeHere_b2 at e
    refine lv_iload_n hx9 hb d12_nodeHere_2 rfl (lv_at hl 1 rfl) ?_
    refine lv_aload_n hx9 hb d12_nodeHere_3 rfl (lv_at hl 0 rfl) ?_
    refine gf_12_7 C hH d12_nodeHere_4 ?_
    refine lv_iconst (v := (2 : Int32)) hx9 hb d12_nodeHere_7 (by decide) ?_
    refine ce_iald C hH lc_69.1 lc_69.2 (ce_in_vp (by decide)) d12_nodeHere_8 ?_
    refine lv_icmp_ge (tgt := 103) hx9 hb d12_nodeHere_9 (by decide) (fun hc9 => ?_) (fun hc9 => ?_)
    · have e := ce_if1 e hc9
      exact hx  h _ _ _ hH (lv_sub hl [] rfl) e
    · have e := ce_if0 e hc9
      refine lv_aload_n hx9 hb d12_nodeHere_12 rfl (lv_at hl 0 rfl) ?_
      refine gf_12_29 C hH d12_nodeHere_13 ?_
      refine lv_iload_n hx9 hb d12_nodeHere_16 rfl (lv_at hl 1 rfl) ?_
      obtain ⟨hi17, e⟩ := ce_gd e
      refine ce_iald C hH lc_74.1 lc_74.2 (ce_in_vp hi17) d12_nodeHere_17 ?_
      refine lv_aload_n hx9 hb d12_nodeHere_18 rfl (lv_at hl 0 rfl) ?_
      refine gf_12_102 C hH d12_nodeHere_19 ?_
      refine lv_aload_n hx9 hb d12_nodeHere_22 rfl (lv_at hl 0 rfl) ?_
      refine gf_12_109 C hH d12_nodeHere_23 ?_
      refine lv_isub hx9 hb d12_nodeHere_26 ?_
      refine lv_icmp_ne (tgt := 34) hx9 hb d12_nodeHere_27 (by decide) (fun hc27 => ?_) (fun hc27 => ?_)
      · have e := ce_if0 e hc27
        refine lv_iconst (v := (0 : Int32)) hx9 hb d12_nodeHere_34 (by decide) ?_
        refine lv_istore_n (lv' := [(2, .int (0 : Int32)), (0, .ref (ad 68)), (1, .int x1)]) hx9 hb d12_nodeHere_35 rfl hl (by decide) rfl (fun ls hl => ?_)
        refine lv_iconst (v := (0 : Int32)) hx9 hb d12_nodeHere_36 (by decide) ?_
        refine lv_istore_n (lv' := [(3, .int (0 : Int32)), (2, .int (0 : Int32)), (0, .ref (ad 68)), (1, .int x1)]) hx9 hb d12_nodeHere_37 rfl hl (by decide) rfl (fun ls hl => ?_)
        refine l12_nodeHere_38 C F x1  r _ (fun y38_2 h_38 H locs ls hH hl e => ?_) F (0 : Int32) (0 : Int32) h _ _ _ hH (lv_sub hl [2, 3, 1, 0] rfl) (ce_as e)
        try dsimp only at e
        refine lv_iload_n hx9 hb d12_nodeHere_91 rfl (lv_at hl 2 rfl) ?_
        refine lv_if_eq (tgt := 97) hx9 hb d12_nodeHere_92 (by decide) (fun hc92 => ?_) (fun hc92 => ?_)
        · have e := ce_if1 e hc92
          refine lv_iinc (v := x1 + (1 : Int32)) (lv' := [(1, .int (x1 + (1 : Int32))), (0, .ref (ad 68)), (2, .int y38_2)]) hx9 hb d12_nodeHere_97 hl (k := 1) rfl rfl (by decide) rfl (fun ls hl => ?_)
          refine lv_goto (tgt := 2) hx9 hb d12_nodeHere_100 (by decide) ?_
          exact ih (x1 + (1 : Int32)) h_38 _ _ _ hH (lv_sub hl [1, 0] rfl) e
        · have e := ce_if0 e hc92
          refine lv_iload_n hx9 hb d12_nodeHere_95 rfl (lv_at hl 1 rfl) ?_
          have e := (he _).symm.trans e
          exact ce_iretE C (ce_sok aK aV B0) hH e d12_nodeHere_96
      · have e := ce_if1 e hc27
        refine lv_iconst (v := (1 : Int32)) hx9 hb d12_nodeHere_30 (by decide) ?_
        refine lv_goto (tgt := 35) hx9 hb d12_nodeHere_31 (by decide) ?_
        refine lv_istore_n (lv' := [(2, .int (1 : Int32)), (0, .ref (ad 68)), (1, .int x1)]) hx9 hb d12_nodeHere_35 rfl hl (by decide) rfl (fun ls hl => ?_)
        refine lv_iconst (v := (0 : Int32)) hx9 hb d12_nodeHere_36 (by decide) ?_
        refine lv_istore_n (lv' := [(3, .int (0 : Int32)), (2, .int (1 : Int32)), (0, .ref (ad 68)), (1, .int x1)]) hx9 hb d12_nodeHere_37 rfl hl (by decide) rfl (fun ls hl => ?_)
        refine l12_nodeHere_38 C F x1  r _ (fun y38_2 h_38 H locs ls hH hl e => ?_) F (1 : Int32) (0 : Int32) h _ _ _ hH (lv_sub hl [2, 3, 1, 0] rfl) (ce_as e)
        try dsimp only at e
        refine lv_iload_n hx9 hb d12_nodeHere_91 rfl (lv_at hl 2 rfl) ?_
        refine lv_if_eq (tgt := 97) hx9 hb d12_nodeHere_92 (by decide) (fun hc92 => ?_) (fun hc92 => ?_)
        · have e := ce_if1 e hc92
          refine lv_iinc (v := x1 + (1 : Int32)) (lv' := [(1, .int (x1 + (1 : Int32))), (0, .ref (ad 68)), (2, .int y38_2)]) hx9 hb d12_nodeHere_97 hl (k := 1) rfl rfl (by decide) rfl (fun ls hl => ?_)
          refine lv_goto (tgt := 2) hx9 hb d12_nodeHere_100 (by decide) ?_
          exact ih (x1 + (1 : Int32)) h_38 _ _ _ hH (lv_sub hl [1, 0] rfl) e
        · have e := ce_if0 e hc92
          refine lv_iload_n hx9 hb d12_nodeHere_95 rfl (lv_at hl 1 rfl) ?_
          have e := (he _).symm.trans e
          exact ce_iretE C (ce_sok aK aV B0) hH e d12_nodeHere_96
def f12_nodeHere (F : Nat)  (h : Hp) : Option (Int32 × Hp) :=
  Option.bind (ce_it (fun (st : Int32 × Hp) => f12_nodeHere_b2 F  st.1 st.2) F ((0 : Int32), h)) (fun o2w => match o2w with
    | .inl z => some z
    | .inr o2 =>
      some ((-1 : Int32), o2))
set_option maxRecDepth 20000 in
theorem c12_nodeHere (l : Launch) (D : va_G) (ad : Nat → Nat) (cA : Nat → ClassId) (aK aV : Nat → Nat) (B0 : Nat) (hA : ce_Ad ad B0) (F : Nat)   (h : Hp) (r : Int32 × Hp) (e : f12_nodeHere F  h = some r) : ce_Ct l D ad cA B0 (ce_St aK aV B0) y12_nodeHere b12_nodeHere 4 (some .int) 0 0 0 0 [.ref (ad 68)] h (some (.int r.1)) r.2 := by
  refine ce_enter hA (by decide) rfl (Nat.le_of_ble_eq_true rfl) (fun p e0 s m below meth c ls C hH hl => ?_)
  have hl : lv_has ls 4 [(0, .ref (ad 68))] := hl
  have hx := C.1
  have hb := C.2.1
  have e : Option.bind _ some = some r := (congrArg (fun z => Option.bind z some) e).trans rfl
  unfold f12_nodeHere at e
  refine lv_iconst (v := (0 : Int32)) hx hb d12_nodeHere_0 (by decide) ?_
  refine lv_istore_n (lv' := [(1, .int (0 : Int32)), (0, .ref (ad 68))]) hx hb d12_nodeHere_1 rfl hl (by decide) rfl (fun ls hl => ?_)
  refine l12_nodeHere_2 C F   r _ (fun  h_2 H locs ls hH hl e => ?_) (fun z => rfl) F (0 : Int32) h _ _ _ hH (lv_sub hl [1, 0] rfl) (ce_as e)
  try dsimp only at e
  refine lv_iconst (v := (-1 : Int32)) hx hb d12_nodeHere_103 (by decide) ?_
  exact ce_iretE C (ce_sok aK aV B0) hH e d12_nodeHere_104
abbrev b12_readsBus : ByteArray := prog_14_method_15_code
def y12_readsBus : MethodName := ⟨cn_12, "readsBus", "()V"⟩
theorem d12_readsBus_0 : decode b12_readsBus 0 = .ok (.aload_n 0, 1) := by decide +kernel
theorem d12_readsBus_1 : decode b12_readsBus 1 = .ok (.aload_n 0, 1) := by decide +kernel
theorem d12_readsBus_2 : decode b12_readsBus 2 = .ok (.ldc 160, 2) := by decide +kernel
theorem d12_readsBus_4 : decode b12_readsBus 4 = .ok (.invokevirtual 153, 3) := by decide +kernel
theorem d12_readsBus_7 : decode b12_readsBus 7 = .ok (.invokevirtual 149, 3) := by decide +kernel
theorem d12_readsBus_10 : decode b12_readsBus 10 = .ok (.aload_n 0, 1) := by decide +kernel
theorem d12_readsBus_11 : decode b12_readsBus 11 = .ok (.getfield 7, 3) := by decide +kernel
theorem d12_readsBus_14 : decode b12_readsBus 14 = .ok (.iconst 0, 1) := by decide +kernel
theorem d12_readsBus_15 : decode b12_readsBus 15 = .ok (.aload_n 0, 1) := by decide +kernel
theorem d12_readsBus_16 : decode b12_readsBus 16 = .ok (.ldc 169, 2) := by decide +kernel
theorem d12_readsBus_18 : decode b12_readsBus 18 = .ok (.iconst 0, 1) := by decide +kernel
theorem d12_readsBus_19 : decode b12_readsBus 19 = .ok (.bipush 20, 2) := by decide +kernel
theorem d12_readsBus_21 : decode b12_readsBus 21 = .ok (.invokevirtual 171, 3) := by decide +kernel
theorem d12_readsBus_24 : decode b12_readsBus 24 = .ok (.iastore, 1) := by decide +kernel
theorem d12_readsBus_25 : decode b12_readsBus 25 = .ok (.aload_n 0, 1) := by decide +kernel
theorem d12_readsBus_26 : decode b12_readsBus 26 = .ok (.getfield 7, 3) := by decide +kernel
theorem d12_readsBus_29 : decode b12_readsBus 29 = .ok (.iconst 1, 1) := by decide +kernel
theorem d12_readsBus_30 : decode b12_readsBus 30 = .ok (.aload_n 0, 1) := by decide +kernel
theorem d12_readsBus_31 : decode b12_readsBus 31 = .ok (.ldc 175, 2) := by decide +kernel
theorem d12_readsBus_33 : decode b12_readsBus 33 = .ok (.iconst 0, 1) := by decide +kernel
theorem d12_readsBus_34 : decode b12_readsBus 34 = .ok (.bipush 9, 2) := by decide +kernel
theorem d12_readsBus_36 : decode b12_readsBus 36 = .ok (.invokevirtual 171, 3) := by decide +kernel
theorem d12_readsBus_39 : decode b12_readsBus 39 = .ok (.iastore, 1) := by decide +kernel
theorem d12_readsBus_40 : decode b12_readsBus 40 = .ok (.return_, 1) := by decide +kernel
theorem mc12_named : Cond.code y12_named b12_named 4 (some .int) ∈ ce_cm := ce_cm_of (List.mem_of_getElem? (i := 1303) (by decide +kernel)) (by decide +kernel)
theorem ml_12_171 : Cond.methodLink cn_12 171 y12_named ∈ ce_cm := ce_cm_of (List.mem_of_getElem? (i := 1300) (by decide +kernel)) (by decide +kernel)
theorem mi12_named : Cond.instanceMethod y12_named ∈ ce_cm := ce_cm_of (List.mem_of_getElem? (i := 1302) (by decide +kernel)) (by decide +kernel)
theorem ms12_named : Cond.selects cn_12 y12_named y12_named ∈ ce_cm := ce_cm_of (List.mem_of_getElem? (i := 37) (by decide +kernel)) (by decide +kernel)
def f12_readsBus (F : Nat)  (h : Hp) : Option (Hp) :=
  Option.bind (f12_isWord F 0 h) (fun o4 =>
    Option.bind (f12_passes F o4.1 o4.2) (fun o7 =>
      Option.bind (f12_named F 1 (0 : Int32) (20 : Int32) o7) (fun o21 =>
        ce_nm (hp_up o21.2 69 ((0 : Int32)).toNatClampNeg o21.1) (fun h_24 =>
          Option.bind (f12_named F 2 (0 : Int32) (9 : Int32) h_24) (fun o36 =>
            ce_nm (hp_up o36.2 69 ((1 : Int32)).toNatClampNeg o36.1) (fun h_39 =>
              some h_39))))))
set_option maxRecDepth 20000 in
theorem c12_readsBus (l : Launch) (D : va_G) (ad : Nat → Nat) (cA : Nat → ClassId) (aK aV : Nat → Nat) (B0 : Nat) (hA : ce_Ad ad B0) (F : Nat)   (h : Hp) (r : Hp) (e : f12_readsBus F  h = some r) : ce_Ct l D ad cA B0 (ce_St aK aV B0) y12_readsBus b12_readsBus 1 none 11 267 0 0 [.ref (ad 68)] h none r := by
  refine ce_enter hA (by decide) rfl (Nat.le_of_ble_eq_true rfl) (fun p e0 s m below meth c ls C hH hl => ?_)
  have hl : lv_has ls 1 [(0, .ref (ad 68))] := hl
  have hx := C.1
  have hb := C.2.1
  have e : Option.bind _ some = some r := (congrArg (fun z => Option.bind z some) e).trans rfl
  unfold f12_readsBus at e
  refine lv_aload_n hx hb d12_readsBus_0 rfl (lv_at hl 0 rfl) ?_
  refine lv_aload_n hx hb d12_readsBus_1 rfl (lv_at hl 0 rfl) ?_
  refine va_ldcS hx hb C.2.2.2.1 (ce_srR C.2.2.2.2.2.2.2.2.2.2 9 rfl) d12_readsBus_2 ?_
  obtain ⟨o4, eo4, e⟩ := ce_bd e
  refine ce_callV (As := [.ref (aK 0)]) (rest := [.ref (ad 68)]) C (ce_sok aK aV B0) hH (c12_isWord l D ad cA aK aV B0 C.2.2.2.2.2.2.1 F 0 (by decide) h o4 eo4) lo_68.1 lo_68.2.choose_spec rfl rfl mc12_isWord ml_12_153 mi12_isWord ms12_isWord mI_12 (n := 1) (by decide) rfl ⟨Nat.le_of_ble_eq_true rfl, Nat.le_of_ble_eq_true rfl⟩ ⟨Nat.le_of_ble_eq_true rfl, Nat.le_of_ble_eq_true rfl⟩ hl.1 rfl (Nat.le_of_ble_eq_true rfl) d12_readsBus_4 (fun H locs hH => ?_)
  refine W.eq (g2 := F0 m 7 ls [.int o4.1, .ref (ad 68)]) rfl ?_
  obtain ⟨o7, eo7, e⟩ := ce_bd e
  refine ce_callV (As := [.int o4.1]) (rest := []) C (ce_sok aK aV B0) hH (c12_passes l D ad cA aK aV B0 C.2.2.2.2.2.2.1 F o4.1  o4.2 o7 eo7) lo_68.1 lo_68.2.choose_spec rfl rfl mc12_passes ml_12_149 mi12_passes ms12_passes mI_12 (n := 1) (by decide) rfl ⟨Nat.le_of_ble_eq_true rfl, Nat.le_of_ble_eq_true rfl⟩ ⟨Nat.le_of_ble_eq_true rfl, Nat.le_of_ble_eq_true rfl⟩ hl.1 rfl (Nat.le_of_ble_eq_true rfl) d12_readsBus_7 (fun H locs hH => ?_)
  refine W.eq (g2 := F0 m 10 ls []) rfl ?_
  refine lv_aload_n hx hb d12_readsBus_10 rfl (lv_at hl 0 rfl) ?_
  refine gf_12_7 C hH d12_readsBus_11 ?_
  refine lv_iconst (v := (0 : Int32)) hx hb d12_readsBus_14 (by decide) ?_
  refine lv_aload_n hx hb d12_readsBus_15 rfl (lv_at hl 0 rfl) ?_
  refine va_ldcS hx hb C.2.2.2.1 (ce_srR C.2.2.2.2.2.2.2.2.2.2 10 rfl) d12_readsBus_16 ?_
  refine lv_iconst (v := (0 : Int32)) hx hb d12_readsBus_18 (by decide) ?_
  refine lv_bipush (v := (20 : Int32)) hx hb d12_readsBus_19 (by decide) ?_
  obtain ⟨o21, eo21, e⟩ := ce_bd e
  refine ce_callV (As := [.ref (aK 1), .int (0 : Int32), .int (20 : Int32)]) (rest := [.int (0 : Int32), .ref (ad 69)]) C (ce_sok aK aV B0) hH (c12_named l D ad cA aK aV B0 C.2.2.2.2.2.2.1 F 1 (0 : Int32) (20 : Int32) (by decide) o7 o21 eo21) lo_68.1 lo_68.2.choose_spec rfl rfl mc12_named ml_12_171 mi12_named ms12_named mI_12 (n := 3) (by decide) rfl ⟨Nat.le_of_ble_eq_true rfl, Nat.le_of_ble_eq_true rfl⟩ ⟨Nat.le_of_ble_eq_true rfl, Nat.le_of_ble_eq_true rfl⟩ hl.1 rfl (Nat.le_of_ble_eq_true rfl) d12_readsBus_21 (fun H locs hH => ?_)
  refine W.eq (g2 := F0 m 24 ls [.int o21.1, .int (0 : Int32), .ref (ad 69)]) rfl ?_
  refine ce_iast C hH lc_69.1 lc_69.2 (ce_in_vp (by decide)) d12_readsBus_24 (fun H locs hH => ?_)
  obtain ⟨h_24, eh_24, e⟩ := ce_nmE e
  rw [← eh_24] at hH
  refine lv_aload_n hx hb d12_readsBus_25 rfl (lv_at hl 0 rfl) ?_
  refine gf_12_7 C hH d12_readsBus_26 ?_
  refine lv_iconst (v := (1 : Int32)) hx hb d12_readsBus_29 (by decide) ?_
  refine lv_aload_n hx hb d12_readsBus_30 rfl (lv_at hl 0 rfl) ?_
  refine va_ldcS hx hb C.2.2.2.1 (ce_srR C.2.2.2.2.2.2.2.2.2.2 11 rfl) d12_readsBus_31 ?_
  refine lv_iconst (v := (0 : Int32)) hx hb d12_readsBus_33 (by decide) ?_
  refine lv_bipush (v := (9 : Int32)) hx hb d12_readsBus_34 (by decide) ?_
  obtain ⟨o36, eo36, e⟩ := ce_bd e
  refine ce_callV (As := [.ref (aK 2), .int (0 : Int32), .int (9 : Int32)]) (rest := [.int (1 : Int32), .ref (ad 69)]) C (ce_sok aK aV B0) hH (c12_named l D ad cA aK aV B0 C.2.2.2.2.2.2.1 F 2 (0 : Int32) (9 : Int32) (by decide) h_24 o36 eo36) lo_68.1 lo_68.2.choose_spec rfl rfl mc12_named ml_12_171 mi12_named ms12_named mI_12 (n := 3) (by decide) rfl ⟨Nat.le_of_ble_eq_true rfl, Nat.le_of_ble_eq_true rfl⟩ ⟨Nat.le_of_ble_eq_true rfl, Nat.le_of_ble_eq_true rfl⟩ hl.1 rfl (Nat.le_of_ble_eq_true rfl) d12_readsBus_36 (fun H locs hH => ?_)
  refine W.eq (g2 := F0 m 39 ls [.int o36.1, .int (1 : Int32), .ref (ad 69)]) rfl ?_
  refine ce_iast C hH lc_69.1 lc_69.2 (ce_in_vp (by decide)) d12_readsBus_39 (fun H locs hH => ?_)
  obtain ⟨h_39, eh_39, e⟩ := ce_nmE e
  rw [← eh_39] at hH
  exact ce_vret C (ce_sok aK aV B0) hH (Option.some.inj e) d12_readsBus_40
end C11
