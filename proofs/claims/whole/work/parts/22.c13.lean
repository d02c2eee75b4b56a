-- C13: functions and contracts, written by wip/whole/gen (mgen.py, walk.py, walk2.py) out of the bytecode
section C13
variable {p : Program} {l : Launch} {e0 : Env} {R : Room} {s : State} {m : MethodId} {args : Array Value} {below : List Frame} {meth : Method} {c : Code} {H : Heap} {locs : List Loc} {cells slots : Nat} {Q : State → Prop}
variable {cc : ByteArray} {pc nL : Nat} {ret : Option FieldType} {ls : Array Slot} {rest : List Value} {D : va_G} {ad : Nat → Nat} {cA : Nat → ClassId} {B0 : Nat} {X : va_W} {h : Hp} {aK aV : Nat → Nat}
abbrev b12_takes : ByteArray := prog_14_method_22_code
def y12_takes : MethodName := ⟨cn_12, "takes", "(I)V"⟩
theorem d12_takes_0 : decode b12_takes 0 = .ok (.aload_n 0, 1) := by decide +kernel
theorem d12_takes_1 : decode b12_takes 1 = .ok (.getfield 7, 3) := by decide +kernel
theorem d12_takes_4 : decode b12_takes 4 = .ok (.bipush 45, 2) := by decide +kernel
theorem d12_takes_6 : decode b12_takes 6 = .ok (.iload_n 1, 1) := by decide +kernel
theorem d12_takes_7 : decode b12_takes 7 = .ok (.iadd, 1) := by decide +kernel
theorem d12_takes_8 : decode b12_takes 8 = .ok (.iaload, 1) := by decide +kernel
theorem d12_takes_9 : decode b12_takes 9 = .ok (.iconst 1, 1) := by decide +kernel
theorem d12_takes_10 : decode b12_takes 10 = .ok (.isub, 1) := by decide +kernel
theorem d12_takes_11 : decode b12_takes 11 = .ok (.istore_n 2, 1) := by decide +kernel
theorem d12_takes_12 : decode b12_takes 12 = .ok (.aload_n 0, 1) := by decide +kernel
theorem d12_takes_13 : decode b12_takes 13 = .ok (.getfield 7, 3) := by decide +kernel
theorem d12_takes_16 : decode b12_takes 16 = .ok (.bipush 45, 2) := by decide +kernel
theorem d12_takes_18 : decode b12_takes 18 = .ok (.iload_n 1, 1) := by decide +kernel
theorem d12_takes_19 : decode b12_takes 19 = .ok (.iadd, 1) := by decide +kernel
theorem d12_takes_20 : decode b12_takes 20 = .ok (.iconst 0, 1) := by decide +kernel
theorem d12_takes_21 : decode b12_takes 21 = .ok (.iastore, 1) := by decide +kernel
theorem d12_takes_22 : decode b12_takes 22 = .ok (.aload_n 0, 1) := by decide +kernel
theorem d12_takes_23 : decode b12_takes 23 = .ok (.getfield 7, 3) := by decide +kernel
theorem d12_takes_26 : decode b12_takes 26 = .ok (.bipush 45, 2) := by decide +kernel
theorem d12_takes_28 : decode b12_takes 28 = .ok (.iload_n 2, 1) := by decide +kernel
theorem d12_takes_29 : decode b12_takes 29 = .ok (.iadd, 1) := by decide +kernel
theorem d12_takes_30 : decode b12_takes 30 = .ok (.iconst 0, 1) := by decide +kernel
theorem d12_takes_31 : decode b12_takes 31 = .ok (.iastore, 1) := by decide +kernel
theorem d12_takes_32 : decode b12_takes 32 = .ok (.aload_n 0, 1) := by decide +kernel
theorem d12_takes_33 : decode b12_takes 33 = .ok (.getfield 7, 3) := by decide +kernel
theorem d12_takes_36 : decode b12_takes 36 = .ok (.bipush 85, 2) := by decide +kernel
theorem d12_takes_38 : decode b12_takes 38 = .ok (.iload_n 1, 1) := by decide +kernel
theorem d12_takes_39 : decode b12_takes 39 = .ok (.iadd, 1) := by decide +kernel
theorem d12_takes_40 : decode b12_takes 40 = .ok (.iconst 0, 1) := by decide +kernel
theorem d12_takes_41 : decode b12_takes 41 = .ok (.iastore, 1) := by decide +kernel
theorem d12_takes_42 : decode b12_takes 42 = .ok (.aload_n 0, 1) := by decide +kernel
theorem d12_takes_43 : decode b12_takes 43 = .ok (.getfield 7, 3) := by decide +kernel
theorem d12_takes_46 : decode b12_takes 46 = .ok (.bipush 85, 2) := by decide +kernel
theorem d12_takes_48 : decode b12_takes 48 = .ok (.iload_n 2, 1) := by decide +kernel
theorem d12_takes_49 : decode b12_takes 49 = .ok (.iadd, 1) := by decide +kernel
theorem d12_takes_50 : decode b12_takes 50 = .ok (.iconst 0, 1) := by decide +kernel
theorem d12_takes_51 : decode b12_takes 51 = .ok (.iastore, 1) := by decide +kernel
theorem d12_takes_52 : decode b12_takes 52 = .ok (.return_, 1) := by decide +kernel
def f12_takes (F : Nat) (x1 : Int32) (h : Hp) : Option (Hp) :=
  if ce_in ((45 : Int32) + x1) 125 = true then
    if ce_in ((45 : Int32) + x1) 125 = true then
      ce_nm (hp_up h 69 (((45 : Int32) + x1)).toNatClampNeg (0 : Int32)) (fun h_21 =>
        if ce_in ((45 : Int32) + ((h 69 (((45 : Int32) + x1)).toNatClampNeg) - (1 : Int32))) 125 = true then
          ce_nm (hp_up h_21 69 (((45 : Int32) + ((h 69 (((45 : Int32) + x1)).toNatClampNeg) - (1 : Int32)))).toNatClampNeg (0 : Int32)) (fun h_31 =>
            if ce_in ((85 : Int32) + x1) 125 = true then
              ce_nm (hp_up h_31 69 (((85 : Int32) + x1)).toNatClampNeg (0 : Int32)) (fun h_41 =>
                if ce_in ((85 : Int32) + ((h 69 (((45 : Int32) + x1)).toNatClampNeg) - (1 : Int32))) 125 = true then
                  ce_nm (hp_up h_41 69 (((85 : Int32) + ((h 69 (((45 : Int32) + x1)).toNatClampNeg) - (1 : Int32)))).toNatClampNeg (0 : Int32)) (fun h_51 =>
                    some h_51)
                else none)
            else none)
        else none)
    else none
  else none
set_option maxRecDepth 20000 in
theorem c12_takes (l : Launch) (D : va_G) (ad : Nat → Nat) (cA : Nat → ClassId) (aK aV : Nat → Nat) (B0 : Nat) (hA : ce_Ad ad B0) (F : Nat) (x1 : Int32)  (h : Hp) (r : Hp) (e : f12_takes F x1 h = some r) : ce_Ct l D ad cA B0 (ce_St aK aV B0) y12_takes b12_takes 3 none 0 0 0 0 [.ref (ad 68), .int x1] h none r := by
  refine ce_enter hA (by decide) rfl (Nat.le_of_ble_eq_true rfl) (fun p e0 s m below meth c ls C hH hl => ?_)
  have hl : lv_has ls 3 [(0, .ref (ad 68)), (1, .int x1)] := hl
  have hx := C.1
  have hb := C.2.1
  have e : Option.bind _ some = some r := (congrArg (fun z => Option.bind z some) e).trans rfl
  unfold f12_takes at e
  refine lv_aload_n hx hb d12_takes_0 rfl (lv_at hl 0 rfl) ?_
  refine gf_12_7 C hH d12_takes_1 ?_
  refine lv_bipush (v := (45 : Int32)) hx hb d12_takes_4 (by decide) ?_
  refine lv_iload_n hx hb d12_takes_6 rfl (lv_at hl 1 rfl) ?_
  refine lv_iadd hx hb d12_takes_7 ?_
  obtain ⟨hi8, e⟩ := ce_gd e
  refine ce_iald C hH lc_69.1 lc_69.2 (ce_in_vp hi8) d12_takes_8 ?_
  refine lv_iconst (v := (1 : Int32)) hx hb d12_takes_9 (by decide) ?_
  refine lv_isub hx hb d12_takes_10 ?_
  refine lv_istore_n (lv' := [(2, .int ((h 69 (((45 : Int32) + x1)).toNatClampNeg) - (1 : Int32))), (0, .ref (ad 68)), (1, .int x1)]) hx hb d12_takes_11 rfl hl (by decide) rfl (fun ls hl => ?_)
  refine lv_aload_n hx hb d12_takes_12 rfl (lv_at hl 1 rfl) ?_
  refine gf_12_7 C hH d12_takes_13 ?_
  refine lv_bipush (v := (45 : Int32)) hx hb d12_takes_16 (by decide) ?_
  refine lv_iload_n hx hb d12_takes_18 rfl (lv_at hl 2 rfl) ?_
  refine lv_iadd hx hb d12_takes_19 ?_
  refine lv_iconst (v := (0 : Int32)) hx hb d12_takes_20 (by decide) ?_
  obtain ⟨hi21, e⟩ := ce_gd e
  refine ce_iast C hH lc_69.1 lc_69.2 (ce_in_vp hi21) d12_takes_21 (fun H locs hH => ?_)
  obtain ⟨h_21, eh_21, e⟩ := ce_nmE e
  rw [← eh_21] at hH
  refine lv_aload_n hx hb d12_takes_22 rfl (lv_at hl 1 rfl) ?_
  refine gf_12_7 C hH d12_takes_23 ?_
  refine lv_bipush (v := (45 : Int32)) hx hb d12_takes_26 (by decide) ?_
  refine lv_iload_n hx hb d12_takes_28 rfl (lv_at hl 0 rfl) ?_
  refine lv_iadd hx hb d12_takes_29 ?_
  refine lv_iconst (v := (0 : Int32)) hx hb d12_takes_30 (by decide) ?_
  obtain ⟨hi31, e⟩ := ce_gd e
  refine ce_iast C hH lc_69.1 lc_69.2 (ce_in_vp hi31) d12_takes_31 (fun H locs hH => ?_)
  obtain ⟨h_31, eh_31, e⟩ := ce_nmE e
  rw [← eh_31] at hH
  refine lv_aload_n hx hb d12_takes_32 rfl (lv_at hl 1 rfl) ?_
  refine gf_12_7 C hH d12_takes_33 ?_
  refine lv_bipush (v := (85 : Int32)) hx hb d12_takes_36 (by decide) ?_
  refine lv_iload_n hx hb d12_takes_38 rfl (lv_at hl 2 rfl) ?_
  refine lv_iadd hx hb d12_takes_39 ?_
  refine lv_iconst (v := (0 : Int32)) hx hb d12_takes_40 (by decide) ?_
  obtain ⟨hi41, e⟩ := ce_gd e
  refine ce_iast C hH lc_69.1 lc_69.2 (ce_in_vp hi41) d12_takes_41 (fun H locs hH => ?_)
  obtain ⟨h_41, eh_41, e⟩ := ce_nmE e
  rw [← eh_41] at hH
  refine lv_aload_n hx hb d12_takes_42 rfl (lv_at hl 1 rfl) ?_
  refine gf_12_7 C hH d12_takes_43 ?_
  refine lv_bipush (v := (85 : Int32)) hx hb d12_takes_46 (by decide) ?_
  refine lv_iload_n hx hb d12_takes_48 rfl (lv_at hl 0 rfl) ?_
  refine lv_iadd hx hb d12_takes_49 ?_
  refine lv_iconst (v := (0 : Int32)) hx hb d12_takes_50 (by decide) ?_
  obtain ⟨hi51, e⟩ := ce_gd e
  refine ce_iast C hH lc_69.1 lc_69.2 (ce_in_vp hi51) d12_takes_51 (fun H locs hH => ?_)
  obtain ⟨h_51, eh_51, e⟩ := ce_nmE e
  rw [← eh_51] at hH
  exact ce_vret C (ce_sok aK aV B0) hH (Option.some.inj e) d12_takes_52
abbrev b12_begins : ByteArray := prog_14_method_23_code
def y12_begins : MethodName := ⟨cn_12, "begins", "()V"⟩
theorem d12_begins_0 : decode b12_begins 0 = .ok (.aload_n 0, 1) := by decide +kernel
theorem d12_begins_1 : decode b12_begins 1 = .ok (.iconst 0, 1) := by decide +kernel
theorem d12_begins_2 : decode b12_begins 2 = .ok (.putfield 102, 3) := by decide +kernel
theorem d12_begins_5 : decode b12_begins 5 = .ok (.aload_n 0, 1) := by decide +kernel
theorem d12_begins_6 : decode b12_begins 6 = .ok (.iconst 0, 1) := by decide +kernel
theorem d12_begins_7 : decode b12_begins 7 = .ok (.putfield 125, 3) := by decide +kernel
theorem d12_begins_10 : decode b12_begins 10 = .ok (.aload_n 0, 1) := by decide +kernel
theorem d12_begins_11 : decode b12_begins 11 = .ok (.iconst 0, 1) := by decide +kernel
theorem d12_begins_12 : decode b12_begins 12 = .ok (.putfield 129, 3) := by decide +kernel
theorem d12_begins_15 : decode b12_begins 15 = .ok (.aload_n 0, 1) := by decide +kernel
theorem d12_begins_16 : decode b12_begins 16 = .ok (.iconst (-1), 1) := by decide +kernel
theorem d12_begins_17 : decode b12_begins 17 = .ok (.putfield 22, 3) := by decide +kernel
theorem d12_begins_20 : decode b12_begins 20 = .ok (.aload_n 0, 1) := by decide +kernel
theorem d12_begins_21 : decode b12_begins 21 = .ok (.invokevirtual 146, 3) := by decide +kernel
theorem d12_begins_24 : decode b12_begins 24 = .ok (.return_, 1) := by decide +kernel
def f12_begins (F : Nat)  (h : Hp) : Option (Hp) :=
  ce_nm (hp_up h 68 7 (0 : Int32)) (fun h_2 =>
    ce_nm (hp_up h_2 68 11 (0 : Int32)) (fun h_7 =>
      ce_nm (hp_up h_7 68 5 (0 : Int32)) (fun h_12 =>
        ce_nm (hp_up h_12 68 6 (-1 : Int32)) (fun h_17 =>
          Option.bind (f12_next F  h_17) (fun o21 =>
            some o21)))))
set_option maxRecDepth 20000 in
theorem c12_begins (l : Launch) (D : va_G) (ad : Nat → Nat) (cA : Nat → ClassId) (aK aV : Nat → Nat) (B0 : Nat) (hA : ce_Ad ad B0) (F : Nat)   (h : Hp) (r : Hp) (e : f12_begins F  h = some r) : ce_Ct l D ad cA B0 (ce_St aK aV B0) y12_begins b12_begins 1 none 3 67 0 0 [.ref (ad 68)] h none r := by
  refine ce_enter hA (by decide) rfl (Nat.le_of_ble_eq_true rfl) (fun p e0 s m below meth c ls C hH hl => ?_)
  have hl : lv_has ls 1 [(0, .ref (ad 68))] := hl
  have hx := C.1
  have hb := C.2.1
  have e : Option.bind _ some = some r := (congrArg (fun z => Option.bind z some) e).trans rfl
  unfold f12_begins at e
  refine lv_aload_n hx hb d12_begins_0 rfl (lv_at hl 0 rfl) ?_
  refine lv_iconst (v := (0 : Int32)) hx hb d12_begins_1 (by decide) ?_
  refine pf_12_102 C hH d12_begins_2 (fun H locs hH => ?_)
  obtain ⟨h_2, eh_2, e⟩ := ce_nmE e
  rw [← eh_2] at hH
  refine lv_aload_n hx hb d12_begins_5 rfl (lv_at hl 0 rfl) ?_
  refine lv_iconst (v := (0 : Int32)) hx hb d12_begins_6 (by decide) ?_
  refine pf_12_125 C hH (Or.inl rfl) d12_begins_7 (fun H locs hH => ?_)
  obtain ⟨h_7, eh_7, e⟩ := ce_nmE e
  rw [← eh_7] at hH
  refine lv_aload_n hx hb d12_begins_10 rfl (lv_at hl 0 rfl) ?_
  refine lv_iconst (v := (0 : Int32)) hx hb d12_begins_11 (by decide) ?_
  refine pf_12_129 C hH d12_begins_12 (fun H locs hH => ?_)
  obtain ⟨h_12, eh_12, e⟩ := ce_nmE e
  rw [← eh_12] at hH
  refine lv_aload_n hx hb d12_begins_15 rfl (lv_at hl 0 rfl) ?_
  refine lv_iconst (v := (-1 : Int32)) hx hb d12_begins_16 (by decide) ?_
  refine pf_12_22 C hH d12_begins_17 (fun H locs hH => ?_)
  obtain ⟨h_17, eh_17, e⟩ := ce_nmE e
  rw [← eh_17] at hH
  refine lv_aload_n hx hb d12_begins_20 rfl (lv_at hl 0 rfl) ?_
  obtain ⟨o21, eo21, e⟩ := ce_bd e
  refine ce_callV (As := []) (rest := []) C (ce_sok aK aV B0) hH (c12_next l D ad cA aK aV B0 C.2.2.2.2.2.2.1 F   h_17 o21 eo21) lo_68.1 lo_68.2.choose_spec rfl rfl mc12_next ml_12_146 mi12_next ms12_next mI_12 (n := 0) (by decide) rfl ⟨Nat.le_of_ble_eq_true rfl, Nat.le_of_ble_eq_true rfl⟩ ⟨Nat.le_of_ble_eq_true rfl, Nat.le_of_ble_eq_true rfl⟩ hl.1 rfl (Nat.le_of_ble_eq_true rfl) d12_begins_21 (fun H locs hH => ?_)
  refine W.eq (g2 := F0 m 24 ls []) rfl ?_
  exact ce_vret C (ce_sok aK aV B0) hH (Option.some.inj e) d12_begins_24
abbrev b12_net : ByteArray := prog_14_method_24_code
def y12_net : MethodName := ⟨cn_12, "net", "()I"⟩
theorem d12_net_0 : decode b12_net 0 = .ok (.iconst 0, 1) := by decide +kernel
theorem d12_net_1 : decode b12_net 1 = .ok (.istore_n 1, 1) := by decide +kernel
theorem d12_net_2 : decode b12_net 2 = .ok (.iload_n 1, 1) := by decide +kernel
theorem d12_net_3 : decode b12_net 3 = .ok (.bipush 125, 2) := by decide +kernel
theorem d12_net_5 : decode b12_net 5 = .ok (.if_icmp .ge 28, 3) := by decide +kernel
theorem d12_net_8 : decode b12_net 8 = .ok (.aload_n 0, 1) := by decide +kernel
theorem d12_net_9 : decode b12_net 9 = .ok (.getfield 13, 3) := by decide +kernel
theorem d12_net_12 : decode b12_net 12 = .ok (.iload_n 1, 1) := by decide +kernel
theorem d12_net_13 : decode b12_net 13 = .ok (.aload_n 0, 1) := by decide +kernel
theorem d12_net_14 : decode b12_net 14 = .ok (.getfield 7, 3) := by decide +kernel
theorem d12_net_17 : decode b12_net 17 = .ok (.iload_n 1, 1) := by decide +kernel
theorem d12_net_18 : decode b12_net 18 = .ok (.iaload, 1) := by decide +kernel
theorem d12_net_19 : decode b12_net 19 = .ok (.iastore, 1) := by decide +kernel
theorem d12_net_20 : decode b12_net 20 = .ok (.aload_n 0, 1) := by decide +kernel
theorem d12_net_21 : decode b12_net 21 = .ok (.getfield 7, 3) := by decide +kernel
theorem d12_net_24 : decode b12_net 24 = .ok (.iload_n 1, 1) := by decide +kernel
theorem d12_net_25 : decode b12_net 25 = .ok (.iconst 0, 1) := by decide +kernel
theorem d12_net_26 : decode b12_net 26 = .ok (.iastore, 1) := by decide +kernel
theorem d12_net_27 : decode b12_net 27 = .ok (.iinc 1 1, 3) := by decide +kernel
theorem d12_net_30 : decode b12_net 30 = .ok (.goto (-28), 3) := by decide +kernel
theorem d12_net_33 : decode b12_net 33 = .ok (.aload_n 0, 1) := by decide +kernel
theorem d12_net_34 : decode b12_net 34 = .ok (.iconst 0, 1) := by decide +kernel
theorem d12_net_35 : decode b12_net 35 = .ok (.putfield 192, 3) := by decide +kernel
theorem d12_net_38 : decode b12_net 38 = .ok (.aload_n 0, 1) := by decide +kernel
theorem d12_net_39 : decode b12_net 39 = .ok (.invokevirtual 208, 3) := by decide +kernel
theorem d12_net_42 : decode b12_net 42 = .ok (.aload_n 0, 1) := by decide +kernel
theorem d12_net_43 : decode b12_net 43 = .ok (.getfield 125, 3) := by decide +kernel
theorem d12_net_46 : decode b12_net 46 = .ok (.ifCond .ne 100, 3) := by decide +kernel
theorem d12_net_49 : decode b12_net 49 = .ok (.aload_n 0, 1) := by decide +kernel
theorem d12_net_50 : decode b12_net 50 = .ok (.getfield 115, 3) := by decide +kernel
theorem d12_net_53 : decode b12_net 53 = .ok (.ifCond .eq 93, 3) := by decide +kernel
theorem d12_net_56 : decode b12_net 56 = .ok (.aload_n 0, 1) := by decide +kernel
theorem d12_net_57 : decode b12_net 57 = .ok (.getfield 7, 3) := by decide +kernel
theorem d12_net_60 : decode b12_net 60 = .ok (.iconst 3, 1) := by decide +kernel
theorem d12_net_61 : decode b12_net 61 = .ok (.iaload, 1) := by decide +kernel
theorem d12_net_62 : decode b12_net 62 = .ok (.ifCond .ne 10, 3) := by decide +kernel
theorem d12_net_65 : decode b12_net 65 = .ok (.aload_n 0, 1) := by decide +kernel
theorem d12_net_66 : decode b12_net 66 = .ok (.invokevirtual 211, 3) := by decide +kernel
theorem d12_net_69 : decode b12_net 69 = .ok (.goto 40, 3) := by decide +kernel
theorem d12_net_72 : decode b12_net 72 = .ok (.aload_n 0, 1) := by decide +kernel
theorem d12_net_73 : decode b12_net 73 = .ok (.ldc 161, 2) := by decide +kernel
theorem d12_net_75 : decode b12_net 75 = .ok (.invokevirtual 153, 3) := by decide +kernel
theorem d12_net_78 : decode b12_net 78 = .ok (.ifCond .eq 10, 3) := by decide +kernel
theorem d12_net_81 : decode b12_net 81 = .ok (.aload_n 0, 1) := by decide +kernel
theorem d12_net_82 : decode b12_net 82 = .ok (.invokevirtual 214, 3) := by decide +kernel
theorem d12_net_85 : decode b12_net 85 = .ok (.goto 24, 3) := by decide +kernel
theorem d12_net_88 : decode b12_net 88 = .ok (.aload_n 0, 1) := by decide +kernel
theorem d12_net_89 : decode b12_net 89 = .ok (.ldc 163, 2) := by decide +kernel
theorem d12_net_91 : decode b12_net 91 = .ok (.invokevirtual 153, 3) := by decide +kernel
theorem d12_net_94 : decode b12_net 94 = .ok (.ifCond .eq 10, 3) := by decide +kernel
theorem d12_net_97 : decode b12_net 97 = .ok (.aload_n 0, 1) := by decide +kernel
theorem d12_net_98 : decode b12_net 98 = .ok (.invokevirtual 217, 3) := by decide +kernel
theorem d12_net_101 : decode b12_net 101 = .ok (.goto 8, 3) := by decide +kernel
theorem d12_net_104 : decode b12_net 104 = .ok (.aload_n 0, 1) := by decide +kernel
theorem d12_net_105 : decode b12_net 105 = .ok (.iconst 1, 1) := by decide +kernel
theorem d12_net_106 : decode b12_net 106 = .ok (.invokevirtual 142, 3) := by decide +kernel
theorem d12_net_109 : decode b12_net 109 = .ok (.aload_n 0, 1) := by decide +kernel
theorem d12_net_110 : decode b12_net 110 = .ok (.aload_n 0, 1) := by decide +kernel
theorem d12_net_111 : decode b12_net 111 = .ok (.getfield 125, 3) := by decide +kernel
theorem d12_net_114 : decode b12_net 114 = .ok (.ifCond .ne 11, 3) := by decide +kernel
theorem d12_net_117 : decode b12_net 117 = .ok (.aload_n 0, 1) := by decide +kernel
theorem d12_net_118 : decode b12_net 118 = .ok (.getfield 115, 3) := by decide +kernel
theorem d12_net_121 : decode b12_net 121 = .ok (.iconst 3, 1) := by decide +kernel
theorem d12_net_122 : decode b12_net 122 = .ok (.if_icmp .ne 7, 3) := by decide +kernel
theorem d12_net_125 : decode b12_net 125 = .ok (.iconst 1, 1) := by decide +kernel
theorem d12_net_126 : decode b12_net 126 = .ok (.goto 4, 3) := by decide +kernel
theorem d12_net_129 : decode b12_net 129 = .ok (.iconst 0, 1) := by decide +kernel
theorem d12_net_130 : decode b12_net 130 = .ok (.invokevirtual 149, 3) := by decide +kernel
theorem d12_net_133 : decode b12_net 133 = .ok (.aload_n 0, 1) := by decide +kernel
theorem d12_net_134 : decode b12_net 134 = .ok (.getfield 7, 3) := by decide +kernel
theorem d12_net_137 : decode b12_net 137 = .ok (.iconst 3, 1) := by decide +kernel
theorem d12_net_138 : decode b12_net 138 = .ok (.dup2, 1) := by decide +kernel
theorem d12_net_139 : decode b12_net 139 = .ok (.iaload, 1) := by decide +kernel
theorem d12_net_140 : decode b12_net 140 = .ok (.iconst 1, 1) := by decide +kernel
theorem d12_net_141 : decode b12_net 141 = .ok (.iadd, 1) := by decide +kernel
theorem d12_net_142 : decode b12_net 142 = .ok (.iastore, 1) := by decide +kernel
theorem d12_net_143 : decode b12_net 143 = .ok (.goto (-101), 3) := by decide +kernel
theorem d12_net_146 : decode b12_net 146 = .ok (.aload_n 0, 1) := by decide +kernel
theorem d12_net_147 : decode b12_net 147 = .ok (.iconst 0, 1) := by decide +kernel
theorem d12_net_148 : decode b12_net 148 = .ok (.putfield 95, 3) := by decide +kernel
theorem d12_net_151 : decode b12_net 151 = .ok (.aload_n 0, 1) := by decide +kernel
theorem d12_net_152 : decode b12_net 152 = .ok (.getfield 125, 3) := by decide +kernel
theorem d12_net_155 : decode b12_net 155 = .ok (.ifCond .eq 32, 3) := by decide +kernel
theorem d12_net_158 : decode b12_net 158 = .ok (.iconst 0, 1) := by decide +kernel
theorem d12_net_159 : decode b12_net 159 = .ok (.istore_n 1, 1) := by decide +kernel
theorem d12_net_160 : decode b12_net 160 = .ok (.iload_n 1, 1) := by decide +kernel
theorem d12_net_161 : decode b12_net 161 = .ok (.bipush 125, 2) := by decide +kernel
theorem d12_net_163 : decode b12_net 163 = .ok (.if_icmp .ge 21, 3) := by decide +kernel
theorem d12_net_166 : decode b12_net 166 = .ok (.aload_n 0, 1) := by decide +kernel
theorem d12_net_167 : decode b12_net 167 = .ok (.getfield 7, 3) := by decide +kernel
theorem d12_net_170 : decode b12_net 170 = .ok (.iload_n 1, 1) := by decide +kernel
theorem d12_net_171 : decode b12_net 171 = .ok (.aload_n 0, 1) := by decide +kernel
theorem d12_net_172 : decode b12_net 172 = .ok (.getfield 13, 3) := by decide +kernel
theorem d12_net_175 : decode b12_net 175 = .ok (.iload_n 1, 1) := by decide +kernel
theorem d12_net_176 : decode b12_net 176 = .ok (.iaload, 1) := by decide +kernel
theorem d12_net_177 : decode b12_net 177 = .ok (.iastore, 1) := by decide +kernel
theorem d12_net_178 : decode b12_net 178 = .ok (.iinc 1 1, 3) := by decide +kernel
theorem d12_net_181 : decode b12_net 181 = .ok (.goto (-21), 3) := by decide +kernel
theorem d12_net_184 : decode b12_net 184 = .ok (.bipush (-4), 2) := by decide +kernel
theorem d12_net_186 : decode b12_net 186 = .ok (.ireturn, 1) := by decide +kernel
theorem d12_net_187 : decode b12_net 187 = .ok (.aload_n 0, 1) := by decide +kernel
theorem d12_net_188 : decode b12_net 188 = .ok (.getfield 7, 3) := by decide +kernel
theorem d12_net_191 : decode b12_net 191 = .ok (.iconst 3, 1) := by decide +kernel
theorem d12_net_192 : decode b12_net 192 = .ok (.iaload, 1) := by decide +kernel
theorem d12_net_193 : decode b12_net 193 = .ok (.ireturn, 1) := by decide +kernel
theorem fl_12_13 : Cond.fieldLink cn_12 13 (ft_12 1).1 (ft_12 1).2.1 (ft_12 1).2.2.1 ∈ ce_cm := ce_cm_of (List.mem_of_getElem? (i := 1122) (by decide +kernel)) (by decide +kernel)
theorem gf_12_13 (C : ce_Cx p s m args c meth cc nL ret cn_12 D ad cA B0 (ce_St aK aV B0)) (hH : ce_H D ad cA B0 X s h H locs) (hdg : decode cc pc = .ok (.getfield 13, 3)) (kk : W p l e0 R s m args below meth c H locs cells slots Q (F0 m (pc + 3) ls (.ref (ad 70) :: rest))) : W p l e0 R s m args below meth c H locs cells slots Q (F0 m pc ls (.ref (ad 68) :: rest)) := by
  exact ce_get C hH (k := 68) (ci := 12) (j := 1) (N := 43) (sj := some (some 70)) (by decide) rfl rfl fw_12 (by decide) fl_12_13 rfl hdg kk
theorem lc_70 : 70 < 96 ∧ ce_lay 70 = .inl (0, 125) := ⟨by decide, rfl⟩
theorem mc12_readsCable : Cond.code y12_readsCable b12_readsCable 6 none ∈ ce_cm := ce_cm_of (List.mem_of_getElem? (i := 1333) (by decide +kernel)) (by decide +kernel)
theorem ml_12_217 : Cond.methodLink cn_12 217 y12_readsCable ∈ ce_cm := ce_cm_of (List.mem_of_getElem? (i := 1330) (by decide +kernel)) (by decide +kernel)
theorem mi12_readsCable : Cond.instanceMethod y12_readsCable ∈ ce_cm := ce_cm_of (List.mem_of_getElem? (i := 1332) (by decide +kernel)) (by decide +kernel)
theorem ms12_readsCable : Cond.selects cn_12 y12_readsCable y12_readsCable ∈ ce_cm := ce_cm_of (List.mem_of_getElem? (i := 43) (by decide +kernel)) (by decide +kernel)
theorem mc12_readsNode : Cond.code y12_readsNode b12_readsNode 2 none ∈ ce_cm := ce_cm_of (List.mem_of_getElem? (i := 1313) (by decide +kernel)) (by decide +kernel)
theorem ml_12_214 : Cond.methodLink cn_12 214 y12_readsNode ∈ ce_cm := ce_cm_of (List.mem_of_getElem? (i := 1310) (by decide +kernel)) (by decide +kernel)
theorem mi12_readsNode : Cond.instanceMethod y12_readsNode ∈ ce_cm := ce_cm_of (List.mem_of_getElem? (i := 1312) (by decide +kernel)) (by decide +kernel)
theorem ms12_readsNode : Cond.selects cn_12 y12_readsNode y12_readsNode ∈ ce_cm := ce_cm_of (List.mem_of_getElem? (i := 39) (by decide +kernel)) (by decide +kernel)
theorem mc12_readsBus : Cond.code y12_readsBus b12_readsBus 1 none ∈ ce_cm := ce_cm_of (List.mem_of_getElem? (i := 1283) (by decide +kernel)) (by decide +kernel)
theorem ml_12_211 : Cond.methodLink cn_12 211 y12_readsBus ∈ ce_cm := ce_cm_of (List.mem_of_getElem? (i := 1280) (by decide +kernel)) (by decide +kernel)
theorem mi12_readsBus : Cond.instanceMethod y12_readsBus ∈ ce_cm := ce_cm_of (List.mem_of_getElem? (i := 1282) (by decide +kernel)) (by decide +kernel)
theorem ms12_readsBus : Cond.selects cn_12 y12_readsBus y12_readsBus ∈ ce_cm := ce_cm_of (List.mem_of_getElem? (i := 33) (by decide +kernel)) (by decide +kernel)
theorem mc12_begins : Cond.code y12_begins b12_begins 1 none ∈ ce_cm := ce_cm_of (List.mem_of_getElem? (i := 1269) (by decide +kernel)) (by decide +kernel)
theorem ml_12_208 : Cond.methodLink cn_12 208 y12_begins ∈ ce_cm := ce_cm_of (List.mem_of_getElem? (i := 1266) (by decide +kernel)) (by decide +kernel)
theorem mi12_begins : Cond.instanceMethod y12_begins ∈ ce_cm := ce_cm_of (List.mem_of_getElem? (i := 1268) (by decide +kernel)) (by decide +kernel)
theorem ms12_begins : Cond.selects cn_12 y12_begins y12_begins ∈ ce_cm := ce_cm_of (List.mem_of_getElem? (i := 30) (by decide +kernel)) (by decide +kernel)
def f12_net_b2 (F : Nat) (x1 : Int32) (h : Hp) : Option ((Int32 × Hp) ⊕ (Hp)) :=
  if (125 : Int32) ≤ x1 then
    some (.inr h)
  else
    if ce_in x1 125 = true then
      if ce_in x1 125 = true then
        ce_nm (hp_up h 70 (x1).toNatClampNeg (h 69 (x1).toNatClampNeg)) (fun h_19 =>
          if ce_in x1 125 = true then
            ce_nm (hp_up h_19 69 (x1).toNatClampNeg (0 : Int32)) (fun h_26 =>
              some (.inl (x1 + (1 : Int32), h_26)))
          else none)
      else none
    else none
set_option maxRecDepth 20000 in
theorem l12_net_2 (C : ce_Cx p s m args c meth b12_net 2 (some .int) cn_12 D ad cA B0 (ce_St aK aV B0)) (F : Nat)   (r : Int32 × Hp) (g : (Hp) → Option (Int32 × Hp)) (hx : ∀  (h : Hp) (H : Heap) (locs : List Loc) (ls : Array Slot), ce_H D ad cA B0 [] s h H locs → lv_has ls 2 [(0, .ref (ad 68))] → g h = some r → W p l e0 { frames := 12, cells := 0, slots := 0, locals := 292 } s m args below meth c H locs 0 0 (MQ below (ce_Q D ad cA B0 (ce_St aK aV B0) (some (.int r.1)) r.2) args s 0 0 (fun q => B0 ≤ q)) (F0 m 33 ls [])) : ∀ (n : Nat) (x1 : Int32) (h : Hp) (H : Heap) (locs : List Loc) (ls : Array Slot), ce_H D ad cA B0 [] s h H locs → lv_has ls 2 [(0, .ref (ad 68)), (1, .int x1)] → Option.bind (ce_it (fun (st : Int32 × Hp) => f12_net_b2 F  st.1 st.2) n (x1, h)) g = some r → W p l e0 { frames := 12, cells := 0, slots := 0, locals := 292 } s m args below meth c H locs 0 0 (MQ below (ce_Q D ad cA B0 (ce_St aK aV B0) (some (.int r.1)) r.2) args s 0 0 (fun q => B0 ≤ q)) (F0 m 2 ls []) := by
  intro n
  induction n with
  | zero =>
    intro x1 h H locs ls hH hl e
    exact absurd e (fun z => by cases z)
  | succ n ih =>
    intro x1 h H locs ls hH hl e
    have hx9 := C.1
    have hb := C.2.1
    have e : Option.bind (f12_net_b2 F  x1 h) _ = some r := ce_it_bd e
    unfold f12_net_b2 at e
    refine lv_iload_n hx9 hb d12_net_2 rfl (lv_at hl 1 rfl) ?_
    refine lv_bipush (v := (125 : Int32)) hx9 hb d12_net_3 (by decide) ?_
    refine lv_icmp_ge (tgt := 33) hx9 hb d12_net_5 (by decide) (fun hc5 => ?_) (fun hc5 => ?_)
    · have e := ce_if1 e hc5
      exact hx  h _ _ _ hH (lv_sub hl [0] rfl) e
    · have e := ce_if0 e hc5
      refine lv_aload_n hx9 hb d12_net_8 rfl (lv_at hl 0 rfl) ?_
      refine gf_12_13 C hH d12_net_9 ?_
      refine lv_iload_n hx9 hb d12_net_12 rfl (lv_at hl 1 rfl) ?_
      refine lv_aload_n hx9 hb d12_net_13 rfl (lv_at hl 0 rfl) ?_
      refine gf_12_7 C hH d12_net_14 ?_
      refine lv_iload_n hx9 hb d12_net_17 rfl (lv_at hl 1 rfl) ?_
      obtain ⟨hi18, e⟩ := ce_gd e
      refine ce_iald C hH lc_69.1 lc_69.2 (ce_in_vp hi18) d12_net_18 ?_
      obtain ⟨hi19, e⟩ := ce_gd e
      refine ce_iast C hH lc_70.1 lc_70.2 (ce_in_vp hi19) d12_net_19 (fun H locs hH => ?_)
      obtain ⟨h_19, eh_19, e⟩ := ce_nmE e
      rw [← eh_19] at hH
      refine lv_aload_n hx9 hb d12_net_20 rfl (lv_at hl 0 rfl) ?_
      refine gf_12_7 C hH d12_net_21 ?_
      refine lv_iload_n hx9 hb d12_net_24 rfl (lv_at hl 1 rfl) ?_
      refine lv_iconst (v := (0 : Int32)) hx9 hb d12_net_25 (by decide) ?_
      obtain ⟨hi26, e⟩ := ce_gd e
      refine ce_iast C hH lc_69.1 lc_69.2 (ce_in_vp hi26) d12_net_26 (fun H locs hH => ?_)
      obtain ⟨h_26, eh_26, e⟩ := ce_nmE e
      rw [← eh_26] at hH
      refine lv_iinc (v := x1 + (1 : Int32)) (lv' := [(1, .int (x1 + (1 : Int32))), (0, .ref (ad 68))]) hx9 hb d12_net_27 hl (k := 1) rfl rfl (by decide) rfl (fun ls hl => ?_)
      refine lv_goto (tgt := 2) hx9 hb d12_net_30 (by decide) ?_
      exact ih (x1 + (1 : Int32)) h_26 _ _ _ hH (lv_sub hl [1, 0] rfl) e
def f12_net_b42 (F : Nat)  (h : Hp) : Option ((Hp) ⊕ (Hp)) :=
  if (h 68 11) = 0 then
    if (h 68 9) = 0 then
      some (.inr h)
    else
      if (h 69 ((3 : Int32)).toNatClampNeg) = 0 then
        Option.bind (f12_readsBus F  h) (fun o66 =>
          if (o66 68 11) = 0 then
            if (o66 68 9) = (3 : Int32) then
              Option.bind (f12_passes F (1 : Int32) o66) (fun o130 =>
                ce_nm (hp_up o130 69 ((3 : Int32)).toNatClampNeg ((o130 69 ((3 : Int32)).toNatClampNeg) + (1 : Int32))) (fun h_142 =>
                  some (.inl h_142)))
            else
              Option.bind (f12_passes F (0 : Int32) o66) (fun o130 =>
                ce_nm (hp_up o130 69 ((3 : Int32)).toNatClampNeg ((o130 69 ((3 : Int32)).toNatClampNeg) + (1 : Int32))) (fun h_142 =>
                  some (.inl h_142)))
          else
            Option.bind (f12_passes F (1 : Int32) o66) (fun o130 =>
              ce_nm (hp_up o130 69 ((3 : Int32)).toNatClampNeg ((o130 69 ((3 : Int32)).toNatClampNeg) + (1 : Int32))) (fun h_142 =>
                some (.inl h_142))))
      else
        Option.bind (f12_isWord F 3 h) (fun o75 =>
          if o75.1 = 0 then
            Option.bind (f12_isWord F 4 o75.2) (fun o91 =>
              if o91.1 = 0 then
                Option.bind (f12_faults F (1 : Int32) o91.2) (fun o106 =>
                  if (o106 68 11) = 0 then
                    if (o106 68 9) = (3 : Int32) then
                      Option.bind (f12_passes F (1 : Int32) o106) (fun o130 =>
                        ce_nm (hp_up o130 69 ((3 : Int32)).toNatClampNeg ((o130 69 ((3 : Int32)).toNatClampNeg) + (1 : Int32))) (fun h_142 =>
                          some (.inl h_142)))
                    else
                      Option.bind (f12_passes F (0 : Int32) o106) (fun o130 =>
                        ce_nm (hp_up o130 69 ((3 : Int32)).toNatClampNeg ((o130 69 ((3 : Int32)).toNatClampNeg) + (1 : Int32))) (fun h_142 =>
                          some (.inl h_142)))
                  else
                    Option.bind (f12_passes F (1 : Int32) o106) (fun o130 =>
                      ce_nm (hp_up o130 69 ((3 : Int32)).toNatClampNeg ((o130 69 ((3 : Int32)).toNatClampNeg) + (1 : Int32))) (fun h_142 =>
                        some (.inl h_142))))
              else
                Option.bind (f12_readsCable F  o91.2) (fun o98 =>
                  if (o98 68 11) = 0 then
                    if (o98 68 9) = (3 : Int32) then
                      Option.bind (f12_passes F (1 : Int32) o98) (fun o130 =>
                        ce_nm (hp_up o130 69 ((3 : Int32)).toNatClampNeg ((o130 69 ((3 : Int32)).toNatClampNeg) + (1 : Int32))) (fun h_142 =>
                          some (.inl h_142)))
                    else
                      Option.bind (f12_passes F (0 : Int32) o98) (fun o130 =>
                        ce_nm (hp_up o130 69 ((3 : Int32)).toNatClampNeg ((o130 69 ((3 : Int32)).toNatClampNeg) + (1 : Int32))) (fun h_142 =>
                          some (.inl h_142)))
                  else
                    Option.bind (f12_passes F (1 : Int32) o98) (fun o130 =>
                      ce_nm (hp_up o130 69 ((3 : Int32)).toNatClampNeg ((o130 69 ((3 : Int32)).toNatClampNeg) + (1 : Int32))) (fun h_142 =>
                        some (.inl h_142)))))
          else
            Option.bind (f12_readsNode F  o75.2) (fun o82 =>
              if (o82 68 11) = 0 then
                if (o82 68 9) = (3 : Int32) then
                  Option.bind (f12_passes F (1 : Int32) o82) (fun o130 =>
                    ce_nm (hp_up o130 69 ((3 : Int32)).toNatClampNeg ((o130 69 ((3 : Int32)).toNatClampNeg) + (1 : Int32))) (fun h_142 =>
                      some (.inl h_142)))
                else
                  Option.bind (f12_passes F (0 : Int32) o82) (fun o130 =>
                    ce_nm (hp_up o130 69 ((3 : Int32)).toNatClampNeg ((o130 69 ((3 : Int32)).toNatClampNeg) + (1 : Int32))) (fun h_142 =>
                      some (.inl h_142)))
              else
                Option.bind (f12_passes F (1 : Int32) o82) (fun o130 =>
                  ce_nm (hp_up o130 69 ((3 : Int32)).toNatClampNeg ((o130 69 ((3 : Int32)).toNatClampNeg) + (1 : Int32))) (fun h_142 =>
                    some (.inl h_142)))))
  else
    some (.inr h)
set_option maxRecDepth 20000 in
theorem l12_net_42 (C : ce_Cx p s m args c meth b12_net 2 (some .int) cn_12 D ad cA B0 (ce_St aK aV B0)) (F : Nat)   (r : Int32 × Hp) (g : (Hp) → Option (Int32 × Hp)) (hx : ∀  (h : Hp) (H : Heap) (locs : List Loc) (ls : Array Slot), ce_H D ad cA B0 [] s h H locs → lv_has ls 2 [(0, .ref (ad 68))] → g h = some r → W p l e0 { frames := 12, cells := 0, slots := 0, locals := 292 } s m args below meth c H locs 0 0 (MQ below (ce_Q D ad cA B0 (ce_St aK aV B0) (some (.int r.1)) r.2) args s 0 0 (fun q => B0 ≤ q)) (F0 m 146 ls [])) : ∀ (n : Nat)  (h : Hp) (H : Heap) (locs : List Loc) (ls : Array Slot), ce_H D ad cA B0 [] s h H locs → lv_has ls 2 [(0, .ref (ad 68))] → Option.bind (ce_it (fun (st : Hp) => f12_net_b42 F  st) n h) g = some r → W p l e0 { frames := 12, cells := 0, slots := 0, locals := 292 } s m args below meth c H locs 0 0 (MQ below (ce_Q D ad cA B0 (ce_St aK aV B0) (some (.int r.1)) r.2) args s 0 0 (fun q => B0 ≤ q)) (F0 m 42 ls []) := by
  intro n
  induction n with
  | zero =>
    intro  h H locs ls hH hl e
    exact absurd e (fun z => by cases z)
  | succ n ih =>
    intro  h H locs ls hH hl e
    have hx9 := C.1
    have hb := C.2.1
    have e : Option.bind (f12_net_b42 F   h) _ = some r := ce_it_bd e
    unfold f12_net_b42 at e
    refine lv_aload_n hx9 hb d12_net_42 rfl (lv_at hl 0 rfl) ?_
    refine gf_12_125 C hH d12_net_43 ?_
    refine lv_if_ne (tgt := 146) hx9 hb d12_net_46 (by decide) (fun hc46 => ?_) (fun hc46 => ?_)
    · have e := ce_if0 e hc46
      exact hx  h _ _ _ hH (lv_sub hl [0] rfl) e
    · have e := ce_if1 e hc46
      refine lv_aload_n hx9 hb d12_net_49 rfl (lv_at hl 0 rfl) ?_
      refine gf_12_115 C hH d12_net_50 ?_
      refine lv_if_eq (tgt := 146) hx9 hb d12_net_53 (by decide) (fun hc53 => ?_) (fun hc53 => ?_)
      · have e := ce_if1 e hc53
        exact hx  h _ _ _ hH (lv_sub hl [0] rfl) e
      · have e := ce_if0 e hc53
        refine lv_aload_n hx9 hb d12_net_56 rfl (lv_at hl 0 rfl) ?_
        refine gf_12_7 C hH d12_net_57 ?_
        refine lv_iconst (v := (3 : Int32)) hx9 hb d12_net_60 (by decide) ?_
        refine ce_iald C hH lc_69.1 lc_69.2 (ce_in_vp (by decide)) d12_net_61 ?_
        refine lv_if_ne (tgt := 72) hx9 hb d12_net_62 (by decide) (fun hc62 => ?_) (fun hc62 => ?_)
        · have e := ce_if0 e hc62
          refine lv_aload_n hx9 hb d12_net_72 rfl (lv_at hl 0 rfl) ?_
          refine va_ldcS hx9 hb C.2.2.2.1 (ce_srR C.2.2.2.2.2.2.2.2.2.2 12 rfl) d12_net_73 ?_
          obtain ⟨o75, eo75, e⟩ := ce_bd e
          refine ce_callV (As := [.ref (aK 3)]) (rest := []) C (ce_sok aK aV B0) hH (c12_isWord l D ad cA aK aV B0 C.2.2.2.2.2.2.1 F 3 (by decide) h o75 eo75) lo_68.1 lo_68.2.choose_spec rfl rfl mc12_isWord ml_12_153 mi12_isWord ms12_isWord mI_12 (n := 1) (by decide) rfl ⟨Nat.le_of_ble_eq_true rfl, Nat.le_of_ble_eq_true rfl⟩ ⟨Nat.le_of_ble_eq_true rfl, Nat.le_of_ble_eq_true rfl⟩ hl.1 rfl (Nat.le_of_ble_eq_true rfl) d12_net_75 (fun H locs hH => ?_)
          refine W.eq (g2 := F0 m 78 ls [.int o75.1]) rfl ?_
          refine lv_if_eq (tgt := 88) hx9 hb d12_net_78 (by decide) (fun hc78 => ?_) (fun hc78 => ?_)
          · have e := ce_if1 e hc78
            refine lv_aload_n hx9 hb d12_net_88 rfl (lv_at hl 0 rfl) ?_
            refine va_ldcS hx9 hb C.2.2.2.1 (ce_srR C.2.2.2.2.2.2.2.2.2.2 13 rfl) d12_net_89 ?_
            obtain ⟨o91, eo91, e⟩ := ce_bd e
            refine ce_callV (As := [.ref (aK 4)]) (rest := []) C (ce_sok aK aV B0) hH (c12_isWord l D ad cA aK aV B0 C.2.2.2.2.2.2.1 F 4 (by decide) o75.2 o91 eo91) lo_68.1 lo_68.2.choose_spec rfl rfl mc12_isWord ml_12_153 mi12_isWord ms12_isWord mI_12 (n := 1) (by decide) rfl ⟨Nat.le_of_ble_eq_true rfl, Nat.le_of_ble_eq_true rfl⟩ ⟨Nat.le_of_ble_eq_true rfl, Nat.le_of_ble_eq_true rfl⟩ hl.1 rfl (Nat.le_of_ble_eq_true rfl) d12_net_91 (fun H locs hH => ?_)
            refine W.eq (g2 := F0 m 94 ls [.int o91.1]) rfl ?_
            refine lv_if_eq (tgt := 104) hx9 hb d12_net_94 (by decide) (fun hc94 => ?_) (fun hc94 => ?_)
            · have e := ce_if1 e hc94
              refine lv_aload_n hx9 hb d12_net_104 rfl (lv_at hl 0 rfl) ?_
              refine lv_iconst (v := (1 : Int32)) hx9 hb d12_net_105 (by decide) ?_
              obtain ⟨o106, eo106, e⟩ := ce_bd e
              refine ce_callV (As := [.int (1 : Int32)]) (rest := []) C (ce_sok aK aV B0) hH (c12_faults l D ad cA aK aV B0 C.2.2.2.2.2.2.1 F (1 : Int32)  o91.2 o106 eo106) lo_68.1 lo_68.2.choose_spec rfl rfl mc12_faults ml_12_142 mi12_faults ms12_faults mI_12 (n := 1) (by decide) rfl ⟨Nat.le_of_ble_eq_true rfl, Nat.le_of_ble_eq_true rfl⟩ ⟨Nat.le_of_ble_eq_true rfl, Nat.le_of_ble_eq_true rfl⟩ hl.1 rfl (Nat.le_of_ble_eq_true rfl) d12_net_106 (fun H locs hH => ?_)
              refine W.eq (g2 := F0 m 109 ls []) rfl ?_
              refine lv_aload_n hx9 hb d12_net_109 rfl (lv_at hl 0 rfl) ?_
              refine lv_aload_n hx9 hb d12_net_110 rfl (lv_at hl 0 rfl) ?_
              refine gf_12_125 C hH d12_net_111 ?_
              refine lv_if_ne (tgt := 125) hx9 hb d12_net_114 (by decide) (fun hc114 => ?_) (fun hc114 => ?_)
              · have e := ce_if0 e hc114
                refine lv_iconst (v := (1 : Int32)) hx9 hb d12_net_125 (by decide) ?_
                refine lv_goto (tgt := 130) hx9 hb d12_net_126 (by decide) ?_
                obtain ⟨o130, eo130, e⟩ := ce_bd e
                refine ce_callV (As := [.int (1 : Int32)]) (rest := []) C (ce_sok aK aV B0) hH (c12_passes l D ad cA aK aV B0 C.2.2.2.2.2.2.1 F (1 : Int32)  o106 o130 eo130) lo_68.1 lo_68.2.choose_spec rfl rfl mc12_passes ml_12_149 mi12_passes ms12_passes mI_12 (n := 1) (by decide) rfl ⟨Nat.le_of_ble_eq_true rfl, Nat.le_of_ble_eq_true rfl⟩ ⟨Nat.le_of_ble_eq_true rfl, Nat.le_of_ble_eq_true rfl⟩ hl.1 rfl (Nat.le_of_ble_eq_true rfl) d12_net_130 (fun H locs hH => ?_)
                refine W.eq (g2 := F0 m 133 ls []) rfl ?_
                refine lv_aload_n hx9 hb d12_net_133 rfl (lv_at hl 0 rfl) ?_
                refine gf_12_7 C hH d12_net_134 ?_
                refine lv_iconst (v := (3 : Int32)) hx9 hb d12_net_137 (by decide) ?_
                refine lv_dup2_11 hx9 hb d12_net_138 rfl rfl ?_
                refine ce_iald C hH lc_69.1 lc_69.2 (ce_in_vp (by decide)) d12_net_139 ?_
                refine lv_iconst (v := (1 : Int32)) hx9 hb d12_net_140 (by decide) ?_
                refine lv_iadd hx9 hb d12_net_141 ?_
                refine ce_iast C hH lc_69.1 lc_69.2 (ce_in_vp (by decide)) d12_net_142 (fun H locs hH => ?_)
                obtain ⟨h_142, eh_142, e⟩ := ce_nmE e
                rw [← eh_142] at hH
                refine lv_goto (tgt := 42) hx9 hb d12_net_143 (by decide) ?_
                exact ih  h_142 _ _ _ hH (lv_sub hl [0] rfl) e
              · have e := ce_if1 e hc114
                refine lv_aload_n hx9 hb d12_net_117 rfl (lv_at hl 0 rfl) ?_
                refine gf_12_115 C hH d12_net_118 ?_
                refine lv_iconst (v := (3 : Int32)) hx9 hb d12_net_121 (by decide) ?_
                refine lv_icmp_ne (tgt := 129) hx9 hb d12_net_122 (by decide) (fun hc122 => ?_) (fun hc122 => ?_)
                · have e := ce_if0 e hc122
                  refine lv_iconst (v := (0 : Int32)) hx9 hb d12_net_129 (by decide) ?_
                  obtain ⟨o130, eo130, e⟩ := ce_bd e
                  refine ce_callV (As := [.int (0 : Int32)]) (rest := []) C (ce_sok aK aV B0) hH (c12_passes l D ad cA aK aV B0 C.2.2.2.2.2.2.1 F (0 : Int32)  o106 o130 eo130) lo_68.1 lo_68.2.choose_spec rfl rfl mc12_passes ml_12_149 mi12_passes ms12_passes mI_12 (n := 1) (by decide) rfl ⟨Nat.le_of_ble_eq_true rfl, Nat.le_of_ble_eq_true rfl⟩ ⟨Nat.le_of_ble_eq_true rfl, Nat.le_of_ble_eq_true rfl⟩ hl.1 rfl (Nat.le_of_ble_eq_true rfl) d12_net_130 (fun H locs hH => ?_)
                  refine W.eq (g2 := F0 m 133 ls []) rfl ?_
                  refine lv_aload_n hx9 hb d12_net_133 rfl (lv_at hl 0 rfl) ?_
                  refine gf_12_7 C hH d12_net_134 ?_
                  refine lv_iconst (v := (3 : Int32)) hx9 hb d12_net_137 (by decide) ?_
                  refine lv_dup2_11 hx9 hb d12_net_138 rfl rfl ?_
                  refine ce_iald C hH lc_69.1 lc_69.2 (ce_in_vp (by decide)) d12_net_139 ?_
                  refine lv_iconst (v := (1 : Int32)) hx9 hb d12_net_140 (by decide) ?_
                  refine lv_iadd hx9 hb d12_net_141 ?_
                  refine ce_iast C hH lc_69.1 lc_69.2 (ce_in_vp (by decide)) d12_net_142 (fun H locs hH => ?_)
                  obtain ⟨h_142, eh_142, e⟩ := ce_nmE e
                  rw [← eh_142] at hH
                  refine lv_goto (tgt := 42) hx9 hb d12_net_143 (by decide) ?_
                  exact ih  h_142 _ _ _ hH (lv_sub hl [0] rfl) e
                · have e := ce_if1 e hc122
                  refine lv_iconst (v := (1 : Int32)) hx9 hb d12_net_125 (by decide) ?_
                  refine lv_goto (tgt := 130) hx9 hb d12_net_126 (by decide) ?_
                  obtain ⟨o130, eo130, e⟩ := ce_bd e
                  refine ce_callV (As := [.int (1 : Int32)]) (rest := []) C (ce_sok aK aV B0) hH (c12_passes l D ad cA aK aV B0 C.2.2.2.2.2.2.1 F (1 : Int32)  o106 o130 eo130) lo_68.1 lo_68.2.choose_spec rfl rfl mc12_passes ml_12_149 mi12_passes ms12_passes mI_12 (n := 1) (by decide) rfl ⟨Nat.le_of_ble_eq_true rfl, Nat.le_of_ble_eq_true rfl⟩ ⟨Nat.le_of_ble_eq_true rfl, Nat.le_of_ble_eq_true rfl⟩ hl.1 rfl (Nat.le_of_ble_eq_true rfl) d12_net_130 (fun H locs hH => ?_)
                  refine W.eq (g2 := F0 m 133 ls []) rfl ?_
                  refine lv_aload_n hx9 hb d12_net_133 rfl (lv_at hl 0 rfl) ?_
                  refine gf_12_7 C hH d12_net_134 ?_
                  refine lv_iconst (v := (3 : Int32)) hx9 hb d12_net_137 (by decide) ?_
                  refine lv_dup2_11 hx9 hb d12_net_138 rfl rfl ?_
                  refine ce_iald C hH lc_69.1 lc_69.2 (ce_in_vp (by decide)) d12_net_139 ?_
                  refine lv_iconst (v := (1 : Int32)) hx9 hb d12_net_140 (by decide) ?_
                  refine lv_iadd hx9 hb d12_net_141 ?_
                  refine ce_iast C hH lc_69.1 lc_69.2 (ce_in_vp (by decide)) d12_net_142 (fun H locs hH => ?_)
                  obtain ⟨h_142, eh_142, e⟩ := ce_nmE e
                  rw [← eh_142] at hH
                  refine lv_goto (tgt := 42) hx9 hb d12_net_143 (by decide) ?_
                  exact ih  h_142 _ _ _ hH (lv_sub hl [0] rfl) e
            · have e := ce_if0 e hc94
              refine lv_aload_n hx9 hb d12_net_97 rfl (lv_at hl 0 rfl) ?_
              obtain ⟨o98, eo98, e⟩ := ce_bd e
              refine ce_callV (As := []) (rest := []) C (ce_sok aK aV B0) hH (c12_readsCable l D ad cA aK aV B0 C.2.2.2.2.2.2.1 F   o91.2 o98 eo98) lo_68.1 lo_68.2.choose_spec rfl rfl mc12_readsCable ml_12_217 mi12_readsCable ms12_readsCable mI_12 (n := 0) (by decide) rfl ⟨Nat.le_of_ble_eq_true rfl, Nat.le_of_ble_eq_true rfl⟩ ⟨Nat.le_of_ble_eq_true rfl, Nat.le_of_ble_eq_true rfl⟩ hl.1 rfl (Nat.le_of_ble_eq_true rfl) d12_net_98 (fun H locs hH => ?_)
              refine W.eq (g2 := F0 m 101 ls []) rfl ?_
              refine lv_goto (tgt := 109) hx9 hb d12_net_101 (by decide) ?_
              refine lv_aload_n hx9 hb d12_net_109 rfl (lv_at hl 0 rfl) ?_
              refine lv_aload_n hx9 hb d12_net_110 rfl (lv_at hl 0 rfl) ?_
              refine gf_12_125 C hH d12_net_111 ?_
              refine lv_if_ne (tgt := 125) hx9 hb d12_net_114 (by decide) (fun hc114 => ?_) (fun hc114 => ?_)
              · have e := ce_if0 e hc114
                refine lv_iconst (v := (1 : Int32)) hx9 hb d12_net_125 (by decide) ?_
                refine lv_goto (tgt := 130) hx9 hb d12_net_126 (by decide) ?_
                obtain ⟨o130, eo130, e⟩ := ce_bd e
                refine ce_callV (As := [.int (1 : Int32)]) (rest := []) C (ce_sok aK aV B0) hH (c12_passes l D ad cA aK aV B0 C.2.2.2.2.2.2.1 F (1 : Int32)  o98 o130 eo130) lo_68.1 lo_68.2.choose_spec rfl rfl mc12_passes ml_12_149 mi12_passes ms12_passes mI_12 (n := 1) (by decide) rfl ⟨Nat.le_of_ble_eq_true rfl, Nat.le_of_ble_eq_true rfl⟩ ⟨Nat.le_of_ble_eq_true rfl, Nat.le_of_ble_eq_true rfl⟩ hl.1 rfl (Nat.le_of_ble_eq_true rfl) d12_net_130 (fun H locs hH => ?_)
                refine W.eq (g2 := F0 m 133 ls []) rfl ?_
                refine lv_aload_n hx9 hb d12_net_133 rfl (lv_at hl 0 rfl) ?_
                refine gf_12_7 C hH d12_net_134 ?_
                refine lv_iconst (v := (3 : Int32)) hx9 hb d12_net_137 (by decide) ?_
                refine lv_dup2_11 hx9 hb d12_net_138 rfl rfl ?_
                refine ce_iald C hH lc_69.1 lc_69.2 (ce_in_vp (by decide)) d12_net_139 ?_
                refine lv_iconst (v := (1 : Int32)) hx9 hb d12_net_140 (by decide) ?_
                refine lv_iadd hx9 hb d12_net_141 ?_
                refine ce_iast C hH lc_69.1 lc_69.2 (ce_in_vp (by decide)) d12_net_142 (fun H locs hH => ?_)
                obtain ⟨h_142, eh_142, e⟩ := ce_nmE e
                rw [← eh_142] at hH
                refine lv_goto (tgt := 42) hx9 hb d12_net_143 (by decide) ?_
                exact ih  h_142 _ _ _ hH (lv_sub hl [0] rfl) e
              · have e := ce_if1 e hc114
                refine lv_aload_n hx9 hb d12_net_117 rfl (lv_at hl 0 rfl) ?_
                refine gf_12_115 C hH d12_net_118 ?_
                refine lv_iconst (v := (3 : Int32)) hx9 hb d12_net_121 (by decide) ?_
                refine lv_icmp_ne (tgt := 129) hx9 hb d12_net_122 (by decide) (fun hc122 => ?_) (fun hc122 => ?_)
                · have e := ce_if0 e hc122
                  refine lv_iconst (v := (0 : Int32)) hx9 hb d12_net_129 (by decide) ?_
                  obtain ⟨o130, eo130, e⟩ := ce_bd e
                  refine ce_callV (As := [.int (0 : Int32)]) (rest := []) C (ce_sok aK aV B0) hH (c12_passes l D ad cA aK aV B0 C.2.2.2.2.2.2.1 F (0 : Int32)  o98 o130 eo130) lo_68.1 lo_68.2.choose_spec rfl rfl mc12_passes ml_12_149 mi12_passes ms12_passes mI_12 (n := 1) (by decide) rfl ⟨Nat.le_of_ble_eq_true rfl, Nat.le_of_ble_eq_true rfl⟩ ⟨Nat.le_of_ble_eq_true rfl, Nat.le_of_ble_eq_true rfl⟩ hl.1 rfl (Nat.le_of_ble_eq_true rfl) d12_net_130 (fun H locs hH => ?_)
                  refine W.eq (g2 := F0 m 133 ls []) rfl ?_
                  refine lv_aload_n hx9 hb d12_net_133 rfl (lv_at hl 0 rfl) ?_
                  refine gf_12_7 C hH d12_net_134 ?_
                  refine lv_iconst (v := (3 : Int32)) hx9 hb d12_net_137 (by decide) ?_
                  refine lv_dup2_11 hx9 hb d12_net_138 rfl rfl ?_
                  refine ce_iald C hH lc_69.1 lc_69.2 (ce_in_vp (by decide)) d12_net_139 ?_
                  refine lv_iconst (v := (1 : Int32)) hx9 hb d12_net_140 (by decide) ?_
                  refine lv_iadd hx9 hb d12_net_141 ?_
                  refine ce_iast C hH lc_69.1 lc_69.2 (ce_in_vp (by decide)) d12_net_142 (fun H locs hH => ?_)
                  obtain ⟨h_142, eh_142, e⟩ := ce_nmE e
                  rw [← eh_142] at hH
                  refine lv_goto (tgt := 42) hx9 hb d12_net_143 (by decide) ?_
                  exact ih  h_142 _ _ _ hH (lv_sub hl [0] rfl) e
                · have e := ce_if1 e hc122
                  refine lv_iconst (v := (1 : Int32)) hx9 hb d12_net_125 (by decide) ?_
                  refine lv_goto (tgt := 130) hx9 hb d12_net_126 (by decide) ?_
                  obtain ⟨o130, eo130, e⟩ := ce_bd e
                  refine ce_callV (As := [.int (1 : Int32)]) (rest := []) C (ce_sok aK aV B0) hH (c12_passes l D ad cA aK aV B0 C.2.2.2.2.2.2.1 F (1 : Int32)  o98 o130 eo130) lo_68.1 lo_68.2.choose_spec rfl rfl mc12_passes ml_12_149 mi12_passes ms12_passes mI_12 (n := 1) (by decide) rfl ⟨Nat.le_of_ble_eq_true rfl, Nat.le_of_ble_eq_true rfl⟩ ⟨Nat.le_of_ble_eq_true rfl, Nat.le_of_ble_eq_true rfl⟩ hl.1 rfl (Nat.le_of_ble_eq_true rfl) d12_net_130 (fun H locs hH => ?_)
                  refine W.eq (g2 := F0 m 133 ls []) rfl ?_
                  refine lv_aload_n hx9 hb d12_net_133 rfl (lv_at hl 0 rfl) ?_
                  refine gf_12_7 C hH d12_net_134 ?_
                  refine lv_iconst (v := (3 : Int32)) hx9 hb d12_net_137 (by decide) ?_
                  refine lv_dup2_11 hx9 hb d12_net_138 rfl rfl ?_
                  refine ce_iald C hH lc_69.1 lc_69.2 (ce_in_vp (by decide)) d12_net_139 ?_
                  refine lv_iconst (v := (1 : Int32)) hx9 hb d12_net_140 (by decide) ?_
                  refine lv_iadd hx9 hb d12_net_141 ?_
                  refine ce_iast C hH lc_69.1 lc_69.2 (ce_in_vp (by decide)) d12_net_142 (fun H locs hH => ?_)
                  obtain ⟨h_142, eh_142, e⟩ := ce_nmE e
                  rw [← eh_142] at hH
                  refine lv_goto (tgt := 42) hx9 hb d12_net_143 (by decide) ?_
                  exact ih  h_142 _ _ _ hH (lv_sub hl [0] rfl) e
          · have e := ce_if0 e hc78
            refine lv_aload_n hx9 hb d12_net_81 rfl (lv_at hl 0 rfl) ?_
            obtain ⟨o82, eo82, e⟩ := ce_bd e
            refine ce_callV (As := []) (rest := []) C (ce_sok aK aV B0) hH (c12_readsNode l D ad cA aK aV B0 C.2.2.2.2.2.2.1 F   o75.2 o82 eo82) lo_68.1 lo_68.2.choose_spec rfl rfl mc12_readsNode ml_12_214 mi12_readsNode ms12_readsNode mI_12 (n := 0) (by decide) rfl ⟨Nat.le_of_ble_eq_true rfl, Nat.le_of_ble_eq_true rfl⟩ ⟨Nat.le_of_ble_eq_true rfl, Nat.le_of_ble_eq_true rfl⟩ hl.1 rfl (Nat.le_of_ble_eq_true rfl) d12_net_82 (fun H locs hH => ?_)
            refine W.eq (g2 := F0 m 85 ls []) rfl ?_
            refine lv_goto (tgt := 109) hx9 hb d12_net_85 (by decide) ?_
            refine lv_aload_n hx9 hb d12_net_109 rfl (lv_at hl 0 rfl) ?_
            refine lv_aload_n hx9 hb d12_net_110 rfl (lv_at hl 0 rfl) ?_
            refine gf_12_125 C hH d12_net_111 ?_
            refine lv_if_ne (tgt := 125) hx9 hb d12_net_114 (by decide) (fun hc114 => ?_) (fun hc114 => ?_)
            · have e := ce_if0 e hc114
              refine lv_iconst (v := (1 : Int32)) hx9 hb d12_net_125 (by decide) ?_
              refine lv_goto (tgt := 130) hx9 hb d12_net_126 (by decide) ?_
              obtain ⟨o130, eo130, e⟩ := ce_bd e
              refine ce_callV (As := [.int (1 : Int32)]) (rest := []) C (ce_sok aK aV B0) hH (c12_passes l D ad cA aK aV B0 C.2.2.2.2.2.2.1 F (1 : Int32)  o82 o130 eo130) lo_68.1 lo_68.2.choose_spec rfl rfl mc12_passes ml_12_149 mi12_passes ms12_passes mI_12 (n := 1) (by decide) rfl ⟨Nat.le_of_ble_eq_true rfl, Nat.le_of_ble_eq_true rfl⟩ ⟨Nat.le_of_ble_eq_true rfl, Nat.le_of_ble_eq_true rfl⟩ hl.1 rfl (Nat.le_of_ble_eq_true rfl) d12_net_130 (fun H locs hH => ?_)
              refine W.eq (g2 := F0 m 133 ls []) rfl ?_
              refine lv_aload_n hx9 hb d12_net_133 rfl (lv_at hl 0 rfl) ?_
              refine gf_12_7 C hH d12_net_134 ?_
              refine lv_iconst (v := (3 : Int32)) hx9 hb d12_net_137 (by decide) ?_
              refine lv_dup2_11 hx9 hb d12_net_138 rfl rfl ?_
              refine ce_iald C hH lc_69.1 lc_69.2 (ce_in_vp (by decide)) d12_net_139 ?_
              refine lv_iconst (v := (1 : Int32)) hx9 hb d12_net_140 (by decide) ?_
              refine lv_iadd hx9 hb d12_net_141 ?_
              refine ce_iast C hH lc_69.1 lc_69.2 (ce_in_vp (by decide)) d12_net_142 (fun H locs hH => ?_)
              obtain ⟨h_142, eh_142, e⟩ := ce_nmE e
              rw [← eh_142] at hH
              refine lv_goto (tgt := 42) hx9 hb d12_net_143 (by decide) ?_
              exact ih  h_142 _ _ _ hH (lv_sub hl [0] rfl) e
            · have e := ce_if1 e hc114
              refine lv_aload_n hx9 hb d12_net_117 rfl (lv_at hl 0 rfl) ?_
              refine gf_12_115 C hH d12_net_118 ?_
              refine lv_iconst (v := (3 : Int32)) hx9 hb d12_net_121 (by decide) ?_
              refine lv_icmp_ne (tgt := 129) hx9 hb d12_net_122 (by decide) (fun hc122 => ?_) (fun hc122 => ?_)
              · have e := ce_if0 e hc122
                refine lv_iconst (v := (0 : Int32)) hx9 hb d12_net_129 (by decide) ?_
                obtain ⟨o130, eo130, e⟩ := ce_bd e
                refine ce_callV (As := [.int (0 : Int32)]) (rest := []) C (ce_sok aK aV B0) hH (c12_passes l D ad cA aK aV B0 C.2.2.2.2.2.2.1 F (0 : Int32)  o82 o130 eo130) lo_68.1 lo_68.2.choose_spec rfl rfl mc12_passes ml_12_149 mi12_passes ms12_passes mI_12 (n := 1) (by decide) rfl ⟨Nat.le_of_ble_eq_true rfl, Nat.le_of_ble_eq_true rfl⟩ ⟨Nat.le_of_ble_eq_true rfl, Nat.le_of_ble_eq_true rfl⟩ hl.1 rfl (Nat.le_of_ble_eq_true rfl) d12_net_130 (fun H locs hH => ?_)
                refine W.eq (g2 := F0 m 133 ls []) rfl ?_
                refine lv_aload_n hx9 hb d12_net_133 rfl (lv_at hl 0 rfl) ?_
                refine gf_12_7 C hH d12_net_134 ?_
                refine lv_iconst (v := (3 : Int32)) hx9 hb d12_net_137 (by decide) ?_
                refine lv_dup2_11 hx9 hb d12_net_138 rfl rfl ?_
                refine ce_iald C hH lc_69.1 lc_69.2 (ce_in_vp (by decide)) d12_net_139 ?_
                refine lv_iconst (v := (1 : Int32)) hx9 hb d12_net_140 (by decide) ?_
                refine lv_iadd hx9 hb d12_net_141 ?_
                refine ce_iast C hH lc_69.1 lc_69.2 (ce_in_vp (by decide)) d12_net_142 (fun H locs hH => ?_)
                obtain ⟨h_142, eh_142, e⟩ := ce_nmE e
                rw [← eh_142] at hH
                refine lv_goto (tgt := 42) hx9 hb d12_net_143 (by decide) ?_
                exact ih  h_142 _ _ _ hH (lv_sub hl [0] rfl) e
              · have e := ce_if1 e hc122
                refine lv_iconst (v := (1 : Int32)) hx9 hb d12_net_125 (by decide) ?_
                refine lv_goto (tgt := 130) hx9 hb d12_net_126 (by decide) ?_
                obtain ⟨o130, eo130, e⟩ := ce_bd e
                refine ce_callV (As := [.int (1 : Int32)]) (rest := []) C (ce_sok aK aV B0) hH (c12_passes l D ad cA aK aV B0 C.2.2.2.2.2.2.1 F (1 : Int32)  o82 o130 eo130) lo_68.1 lo_68.2.choose_spec rfl rfl mc12_passes ml_12_149 mi12_passes ms12_passes mI_12 (n := 1) (by decide) rfl ⟨Nat.le_of_ble_eq_true rfl, Nat.le_of_ble_eq_true rfl⟩ ⟨Nat.le_of_ble_eq_true rfl, Nat.le_of_ble_eq_true rfl⟩ hl.1 rfl (Nat.le_of_ble_eq_true rfl) d12_net_130 (fun H locs hH => ?_)
                refine W.eq (g2 := F0 m 133 ls []) rfl ?_
                refine lv_aload_n hx9 hb d12_net_133 rfl (lv_at hl 0 rfl) ?_
                refine gf_12_7 C hH d12_net_134 ?_
                refine lv_iconst (v := (3 : Int32)) hx9 hb d12_net_137 (by decide) ?_
                refine lv_dup2_11 hx9 hb d12_net_138 rfl rfl ?_
                refine ce_iald C hH lc_69.1 lc_69.2 (ce_in_vp (by decide)) d12_net_139 ?_
                refine lv_iconst (v := (1 : Int32)) hx9 hb d12_net_140 (by decide) ?_
                refine lv_iadd hx9 hb d12_net_141 ?_
                refine ce_iast C hH lc_69.1 lc_69.2 (ce_in_vp (by decide)) d12_net_142 (fun H locs hH => ?_)
                obtain ⟨h_142, eh_142, e⟩ := ce_nmE e
                rw [← eh_142] at hH
                refine lv_goto (tgt := 42) hx9 hb d12_net_143 (by decide) ?_
                exact ih  h_142 _ _ _ hH (lv_sub hl [0] rfl) e
        · have e := ce_if1 e hc62
          refine lv_aload_n hx9 hb d12_net_65 rfl (lv_at hl 0 rfl) ?_
          obtain ⟨o66, eo66, e⟩ := ce_bd e
          refine ce_callV (As := []) (rest := []) C (ce_sok aK aV B0) hH (c12_readsBus l D ad cA aK aV B0 C.2.2.2.2.2.2.1 F   h o66 eo66) lo_68.1 lo_68.2.choose_spec rfl rfl mc12_readsBus ml_12_211 mi12_readsBus ms12_readsBus mI_12 (n := 0) (by decide) rfl ⟨Nat.le_of_ble_eq_true rfl, Nat.le_of_ble_eq_true rfl⟩ ⟨Nat.le_of_ble_eq_true rfl, Nat.le_of_ble_eq_true rfl⟩ hl.1 rfl (Nat.le_of_ble_eq_true rfl) d12_net_66 (fun H locs hH => ?_)
          refine W.eq (g2 := F0 m 69 ls []) rfl ?_
          refine lv_goto (tgt := 109) hx9 hb d12_net_69 (by decide) ?_
          refine lv_aload_n hx9 hb d12_net_109 rfl (lv_at hl 0 rfl) ?_
          refine lv_aload_n hx9 hb d12_net_110 rfl (lv_at hl 0 rfl) ?_
          refine gf_12_125 C hH d12_net_111 ?_
          refine lv_if_ne (tgt := 125) hx9 hb d12_net_114 (by decide) (fun hc114 => ?_) (fun hc114 => ?_)
          · have e := ce_if0 e hc114
            refine lv_iconst (v := (1 : Int32)) hx9 hb d12_net_125 (by decide) ?_
            refine lv_goto (tgt := 130) hx9 hb d12_net_126 (by decide) ?_
            obtain ⟨o130, eo130, e⟩ := ce_bd e
            refine ce_callV (As := [.int (1 : Int32)]) (rest := []) C (ce_sok aK aV B0) hH (c12_passes l D ad cA aK aV B0 C.2.2.2.2.2.2.1 F (1 : Int32)  o66 o130 eo130) lo_68.1 lo_68.2.choose_spec rfl rfl mc12_passes ml_12_149 mi12_passes ms12_passes mI_12 (n := 1) (by decide) rfl ⟨Nat.le_of_ble_eq_true rfl, Nat.le_of_ble_eq_true rfl⟩ ⟨Nat.le_of_ble_eq_true rfl, Nat.le_of_ble_eq_true rfl⟩ hl.1 rfl (Nat.le_of_ble_eq_true rfl) d12_net_130 (fun H locs hH => ?_)
            refine W.eq (g2 := F0 m 133 ls []) rfl ?_
            refine lv_aload_n hx9 hb d12_net_133 rfl (lv_at hl 0 rfl) ?_
            refine gf_12_7 C hH d12_net_134 ?_
            refine lv_iconst (v := (3 : Int32)) hx9 hb d12_net_137 (by decide) ?_
            refine lv_dup2_11 hx9 hb d12_net_138 rfl rfl ?_
            refine ce_iald C hH lc_69.1 lc_69.2 (ce_in_vp (by decide)) d12_net_139 ?_
            refine lv_iconst (v := (1 : Int32)) hx9 hb d12_net_140 (by decide) ?_
            refine lv_iadd hx9 hb d12_net_141 ?_
            refine ce_iast C hH lc_69.1 lc_69.2 (ce_in_vp (by decide)) d12_net_142 (fun H locs hH => ?_)
            obtain ⟨h_142, eh_142, e⟩ := ce_nmE e
            rw [← eh_142] at hH
            refine lv_goto (tgt := 42) hx9 hb d12_net_143 (by decide) ?_
            exact ih  h_142 _ _ _ hH (lv_sub hl [0] rfl) e
          · have e := ce_if1 e hc114
            refine lv_aload_n hx9 hb d12_net_117 rfl (lv_at hl 0 rfl) ?_
            refine gf_12_115 C hH d12_net_118 ?_
            refine lv_iconst (v := (3 : Int32)) hx9 hb d12_net_121 (by decide) ?_
            refine lv_icmp_ne (tgt := 129) hx9 hb d12_net_122 (by decide) (fun hc122 => ?_) (fun hc122 => ?_)
            · have e := ce_if0 e hc122
              refine lv_iconst (v := (0 : Int32)) hx9 hb d12_net_129 (by decide) ?_
              obtain ⟨o130, eo130, e⟩ := ce_bd e
              refine ce_callV (As := [.int (0 : Int32)]) (rest := []) C (ce_sok aK aV B0) hH (c12_passes l D ad cA aK aV B0 C.2.2.2.2.2.2.1 F (0 : Int32)  o66 o130 eo130) lo_68.1 lo_68.2.choose_spec rfl rfl mc12_passes ml_12_149 mi12_passes ms12_passes mI_12 (n := 1) (by decide) rfl ⟨Nat.le_of_ble_eq_true rfl, Nat.le_of_ble_eq_true rfl⟩ ⟨Nat.le_of_ble_eq_true rfl, Nat.le_of_ble_eq_true rfl⟩ hl.1 rfl (Nat.le_of_ble_eq_true rfl) d12_net_130 (fun H locs hH => ?_)
              refine W.eq (g2 := F0 m 133 ls []) rfl ?_
              refine lv_aload_n hx9 hb d12_net_133 rfl (lv_at hl 0 rfl) ?_
              refine gf_12_7 C hH d12_net_134 ?_
              refine lv_iconst (v := (3 : Int32)) hx9 hb d12_net_137 (by decide) ?_
              refine lv_dup2_11 hx9 hb d12_net_138 rfl rfl ?_
              refine ce_iald C hH lc_69.1 lc_69.2 (ce_in_vp (by decide)) d12_net_139 ?_
              refine lv_iconst (v := (1 : Int32)) hx9 hb d12_net_140 (by decide) ?_
              refine lv_iadd hx9 hb d12_net_141 ?_
              refine ce_iast C hH lc_69.1 lc_69.2 (ce_in_vp (by decide)) d12_net_142 (fun H locs hH => ?_)
              obtain ⟨h_142, eh_142, e⟩ := ce_nmE e
              rw [← eh_142] at hH
              refine lv_goto (tgt := 42) hx9 hb d12_net_143 (by decide) ?_
              exact ih  h_142 _ _ _ hH (lv_sub hl [0] rfl) e
            · have e := ce_if1 e hc122
              refine lv_iconst (v := (1 : Int32)) hx9 hb d12_net_125 (by decide) ?_
              refine lv_goto (tgt := 130) hx9 hb d12_net_126 (by decide) ?_
              obtain ⟨o130, eo130, e⟩ := ce_bd e
              refine ce_callV (As := [.int (1 : Int32)]) (rest := []) C (ce_sok aK aV B0) hH (c12_passes l D ad cA aK aV B0 C.2.2.2.2.2.2.1 F (1 : Int32)  o66 o130 eo130) lo_68.1 lo_68.2.choose_spec rfl rfl mc12_passes ml_12_149 mi12_passes ms12_passes mI_12 (n := 1) (by decide) rfl ⟨Nat.le_of_ble_eq_true rfl, Nat.le_of_ble_eq_true rfl⟩ ⟨Nat.le_of_ble_eq_true rfl, Nat.le_of_ble_eq_true rfl⟩ hl.1 rfl (Nat.le_of_ble_eq_true rfl) d12_net_130 (fun H locs hH => ?_)
              refine W.eq (g2 := F0 m 133 ls []) rfl ?_
              refine lv_aload_n hx9 hb d12_net_133 rfl (lv_at hl 0 rfl) ?_
              refine gf_12_7 C hH d12_net_134 ?_
              refine lv_iconst (v := (3 : Int32)) hx9 hb d12_net_137 (by decide) ?_
              refine lv_dup2_11 hx9 hb d12_net_138 rfl rfl ?_
              refine ce_iald C hH lc_69.1 lc_69.2 (ce_in_vp (by decide)) d12_net_139 ?_
              refine lv_iconst (v := (1 : Int32)) hx9 hb d12_net_140 (by decide) ?_
              refine lv_iadd hx9 hb d12_net_141 ?_
              refine ce_iast C hH lc_69.1 lc_69.2 (ce_in_vp (by decide)) d12_net_142 (fun H locs hH => ?_)
              obtain ⟨h_142, eh_142, e⟩ := ce_nmE e
              rw [← eh_142] at hH
              refine lv_goto (tgt := 42) hx9 hb d12_net_143 (by decide) ?_
              exact ih  h_142 _ _ _ hH (lv_sub hl [0] rfl) e
def f12_net_b160 (F : Nat) (x1 : Int32) (h : Hp) : Option ((Int32 × Hp) ⊕ (Hp)) :=
  if (125 : Int32) ≤ x1 then
    some (.inr h)
  else
    if ce_in x1 125 = true then
      if ce_in x1 125 = true then
        ce_nm (hp_up h 69 (x1).toNatClampNeg (h 70 (x1).toNatClampNeg)) (fun h_177 =>
          some (.inl (x1 + (1 : Int32), h_177)))
      else none
    else none
set_option maxRecDepth 20000 in
theorem l12_net_160 (C : ce_Cx p s m args c meth b12_net 2 (some .int) cn_12 D ad cA B0 (ce_St aK aV B0)) (F : Nat)   (r : Int32 × Hp) (g : (Hp) → Option (Int32 × Hp)) (hx : ∀  (h : Hp) (H : Heap) (locs : List Loc) (ls : Array Slot), ce_H D ad cA B0 [] s h H locs → lv_has ls 2 [] → g h = some r → W p l e0 { frames := 12, cells := 0, slots := 0, locals := 292 } s m args below meth c H locs 0 0 (MQ below (ce_Q D ad cA B0 (ce_St aK aV B0) (some (.int r.1)) r.2) args s 0 0 (fun q => B0 ≤ q)) (F0 m 184 ls [])) : ∀ (n : Nat) (x1 : Int32) (h : Hp) (H : Heap) (locs : List Loc) (ls : Array Slot), ce_H D ad cA B0 [] s h H locs → lv_has ls 2 [(0, .ref (ad 68)), (1, .int x1)] → Option.bind (ce_it (fun (st : Int32 × Hp) => f12_net_b160 F  st.1 st.2) n (x1, h)) g = some r → W p l e0 { frames := 12, cells := 0, slots := 0, locals := 292 } s m args below meth c H locs 0 0 (MQ below (ce_Q D ad cA B0 (ce_St aK aV B0) (some (.int r.1)) r.2) args s 0 0 (fun q => B0 ≤ q)) (F0 m 160 ls []) := by
  intro n
  induction n with
  | zero =>
    intro x1 h H locs ls hH hl e
    exact absurd e (fun z => by cases z)
  | succ n ih =>
    intro x1 h H locs ls hH hl e
    have hx9 := C.1
    have hb := C.2.1
    have e : Option.bind (f12_net_b160 F  x1 h) _ = some r := ce_it_bd e
    unfold f12_net_b160 at e
    refine lv_iload_n hx9 hb d12_net_160 rfl (lv_at hl 1 rfl) ?_
    refine lv_bipush (v := (125 : Int32)) hx9 hb d12_net_161 (by decide) ?_
    refine lv_icmp_ge (tgt := 184) hx9 hb d12_net_163 (by decide) (fun hc163 => ?_) (fun hc163 => ?_)
    · have e := ce_if1 e hc163
      exact hx  h _ _ _ hH (lv_sub hl [] rfl) e
    · have e := ce_if0 e hc163
      refine lv_aload_n hx9 hb d12_net_166 rfl (lv_at hl 0 rfl) ?_
      refine gf_12_7 C hH d12_net_167 ?_
      refine lv_iload_n hx9 hb d12_net_170 rfl (lv_at hl 1 rfl) ?_
      refine lv_aload_n hx9 hb d12_net_171 rfl (lv_at hl 0 rfl) ?_
      refine gf_12_13 C hH d12_net_172 ?_
      refine lv_iload_n hx9 hb d12_net_175 rfl (lv_at hl 1 rfl) ?_
      obtain ⟨hi176, e⟩ := ce_gd e
      refine ce_iald C hH lc_70.1 lc_70.2 (ce_in_vp hi176) d12_net_176 ?_
      obtain ⟨hi177, e⟩ := ce_gd e
      refine ce_iast C hH lc_69.1 lc_69.2 (ce_in_vp hi177) d12_net_177 (fun H locs hH => ?_)
      obtain ⟨h_177, eh_177, e⟩ := ce_nmE e
      rw [← eh_177] at hH
      refine lv_iinc (v := x1 + (1 : Int32)) (lv' := [(1, .int (x1 + (1 : Int32))), (0, .ref (ad 68))]) hx9 hb d12_net_178 hl (k := 1) rfl rfl (by decide) rfl (fun ls hl => ?_)
      refine lv_goto (tgt := 160) hx9 hb d12_net_181 (by decide) ?_
      exact ih (x1 + (1 : Int32)) h_177 _ _ _ hH (lv_sub hl [1, 0] rfl) e
def f12_net (F : Nat)  (h : Hp) : Option (Int32 × Hp) :=
  Option.bind (ce_it (fun (st : Int32 × Hp) => f12_net_b2 F  st.1 st.2) F ((0 : Int32), h)) (fun o2 =>
    ce_nm (hp_up o2 68 12 (0 : Int32)) (fun h_35 =>
      Option.bind (f12_begins F  h_35) (fun o39 =>
        Option.bind (ce_it (fun (st : Hp) => f12_net_b42 F  st) F o39) (fun o42 =>
          ce_nm (hp_up o42 68 4 (0 : Int32)) (fun h_148 =>
            if (h_148 68 11) = 0 then
              some (h_148 69 ((3 : Int32)).toNatClampNeg, h_148)
            else
              Option.bind (ce_it (fun (st : Int32 × Hp) => f12_net_b160 F  st.1 st.2) F ((0 : Int32), h_148)) (fun o160 =>
                some ((-4 : Int32), o160)))))))
set_option maxRecDepth 20000 in
theorem c12_net (l : Launch) (D : va_G) (ad : Nat → Nat) (cA : Nat → ClassId) (aK aV : Nat → Nat) (B0 : Nat) (hA : ce_Ad ad B0) (F : Nat)   (h : Hp) (r : Int32 × Hp) (e : f12_net F  h = some r) : ce_Ct l D ad cA B0 (ce_St aK aV B0) y12_net b12_net 2 (some .int) 12 292 0 0 [.ref (ad 68)] h (some (.int r.1)) r.2 := by
  refine ce_enter hA (by decide) rfl (Nat.le_of_ble_eq_true rfl) (fun p e0 s m below meth c ls C hH hl => ?_)
  have hl : lv_has ls 2 [(0, .ref (ad 68))] := hl
  have hx := C.1
  have hb := C.2.1
  have e : Option.bind _ some = some r := (congrArg (fun z => Option.bind z some) e).trans rfl
  unfold f12_net at e
  refine lv_iconst (v := (0 : Int32)) hx hb d12_net_0 (by decide) ?_
  refine lv_istore_n (lv' := [(1, .int (0 : Int32)), (0, .ref (ad 68))]) hx hb d12_net_1 rfl hl (by decide) rfl (fun ls hl => ?_)
  refine l12_net_2 C F   r _ (fun  h_2 H locs ls hH hl e => ?_) F (0 : Int32) h _ _ _ hH (lv_sub hl [1, 0] rfl) (ce_as e)
  try dsimp only at e
  refine lv_aload_n hx hb d12_net_33 rfl (lv_at hl 0 rfl) ?_
  refine lv_iconst (v := (0 : Int32)) hx hb d12_net_34 (by decide) ?_
  refine pf_12_192 C hH d12_net_35 (fun H locs hH => ?_)
  obtain ⟨h_35, eh_35, e⟩ := ce_nmE e
  rw [← eh_35] at hH
  refine lv_aload_n hx hb d12_net_38 rfl (lv_at hl 0 rfl) ?_
  obtain ⟨o39, eo39, e⟩ := ce_bd e
  refine ce_callV (As := []) (rest := []) C (ce_sok aK aV B0) hH (c12_begins l D ad cA aK aV B0 C.2.2.2.2.2.2.1 F   h_35 o39 eo39) lo_68.1 lo_68.2.choose_spec rfl rfl mc12_begins ml_12_208 mi12_begins ms12_begins mI_12 (n := 0) (by decide) rfl ⟨Nat.le_of_ble_eq_true rfl, Nat.le_of_ble_eq_true rfl⟩ ⟨Nat.le_of_ble_eq_true rfl, Nat.le_of_ble_eq_true rfl⟩ hl.1 rfl (Nat.le_of_ble_eq_true rfl) d12_net_39 (fun H locs hH => ?_)
  refine W.eq (g2 := F0 m 42 ls []) rfl ?_
  refine l12_net_42 C F   r _ (fun  h_42 H locs ls hH hl e => ?_) F  o39 _ _ _ hH (lv_sub hl [0] rfl) (ce_as e)
  try dsimp only at e
  refine lv_aload_n hx hb d12_net_146 rfl (lv_at hl 0 rfl) ?_
  refine lv_iconst (v := (0 : Int32)) hx hb d12_net_147 (by decide) ?_
  refine pf_12_95 C hH d12_net_148 (fun H locs hH => ?_)
  obtain ⟨h_148, eh_148, e⟩ := ce_nmE e
  rw [← eh_148] at hH
  refine lv_aload_n hx hb d12_net_151 rfl (lv_at hl 0 rfl) ?_
  refine gf_12_125 C hH d12_net_152 ?_
  refine lv_if_eq (tgt := 187) hx hb d12_net_155 (by decide) (fun hc155 => ?_) (fun hc155 => ?_)
  · have e := ce_if1 e hc155
    refine lv_aload_n hx hb d12_net_187 rfl (lv_at hl 0 rfl) ?_
    refine gf_12_7 C hH d12_net_188 ?_
    refine lv_iconst (v := (3 : Int32)) hx hb d12_net_191 (by decide) ?_
    refine ce_iald C hH lc_69.1 lc_69.2 (ce_in_vp (by decide)) d12_net_192 ?_
    exact ce_iretE C (ce_sok aK aV B0) hH e d12_net_193
  · have e := ce_if0 e hc155
    refine lv_iconst (v := (0 : Int32)) hx hb d12_net_158 (by decide) ?_
    refine lv_istore_n (lv' := [(1, .int (0 : Int32)), (0, .ref (ad 68))]) hx hb d12_net_159 rfl hl (by decide) rfl (fun ls hl => ?_)
    refine l12_net_160 C F   r _ (fun  h_160 H locs ls hH hl e => ?_) F (0 : Int32) h_148 _ _ _ hH (lv_sub hl [1, 0] rfl) (ce_as e)
    try dsimp only at e
    refine lv_bipush (v := (-4 : Int32)) hx hb d12_net_184 (by decide) ?_
    exact ce_iretE C (ce_sok aK aV B0) hH e d12_net_186
abbrev b12_fault : ByteArray := prog_14_method_25_code
def y12_fault : MethodName := ⟨cn_12, "fault", "(I)I"⟩
theorem d12_fault_0 : decode b12_fault 0 = .ok (.iload_n 1, 1) := by decide +kernel
theorem d12_fault_1 : decode b12_fault 1 = .ok (.ifCond .ne 10, 3) := by decide +kernel
theorem d12_fault_4 : decode b12_fault 4 = .ok (.aload_n 0, 1) := by decide +kernel
theorem d12_fault_5 : decode b12_fault 5 = .ok (.getfield 129, 3) := by decide +kernel
theorem d12_fault_8 : decode b12_fault 8 = .ok (.goto 16, 3) := by decide +kernel
theorem d12_fault_11 : decode b12_fault 11 = .ok (.iload_n 1, 1) := by decide +kernel
theorem d12_fault_12 : decode b12_fault 12 = .ok (.iconst 1, 1) := by decide +kernel
theorem d12_fault_13 : decode b12_fault 13 = .ok (.if_icmp .ne 10, 3) := by decide +kernel
theorem d12_fault_16 : decode b12_fault 16 = .ok (.aload_n 0, 1) := by decide +kernel
theorem d12_fault_17 : decode b12_fault 17 = .ok (.getfield 22, 3) := by decide +kernel
theorem d12_fault_20 : decode b12_fault 20 = .ok (.goto 4, 3) := by decide +kernel
theorem d12_fault_23 : decode b12_fault 23 = .ok (.iconst (-1), 1) := by decide +kernel
theorem d12_fault_24 : decode b12_fault 24 = .ok (.ireturn, 1) := by decide +kernel
def f12_fault (F : Nat) (x1 : Int32) (h : Hp) : Option (Int32 × Hp) :=
  if x1 = 0 then
    some (h 68 5, h)
  else
    if x1 = (1 : Int32) then
      some (h 68 6, h)
    else
      some ((-1 : Int32), h)
set_option maxRecDepth 20000 in
theorem c12_fault (l : Launch) (D : va_G) (ad : Nat → Nat) (cA : Nat → ClassId) (aK aV : Nat → Nat) (B0 : Nat) (hA : ce_Ad ad B0) (F : Nat) (x1 : Int32)  (h : Hp) (r : Int32 × Hp) (e : f12_fault F x1 h = some r) : ce_Ct l D ad cA B0 (ce_St aK aV B0) y12_fault b12_fault 2 (some .int) 0 0 0 0 [.ref (ad 68), .int x1] h (some (.int r.1)) r.2 := by
  refine ce_enter hA (by decide) rfl (Nat.le_of_ble_eq_true rfl) (fun p e0 s m below meth c ls C hH hl => ?_)
  have hl : lv_has ls 2 [(0, .ref (ad 68)), (1, .int x1)] := hl
  have hx := C.1
  have hb := C.2.1
  have e : Option.bind _ some = some r := (congrArg (fun z => Option.bind z some) e).trans rfl
  unfold f12_fault at e
  refine lv_iload_n hx hb d12_fault_0 rfl (lv_at hl 1 rfl) ?_
  refine lv_if_ne (tgt := 11) hx hb d12_fault_1 (by decide) (fun hc1 => ?_) (fun hc1 => ?_)
  · have e := ce_if0 e hc1
    refine lv_iload_n hx hb d12_fault_11 rfl (lv_at hl 1 rfl) ?_
    refine lv_iconst (v := (1 : Int32)) hx hb d12_fault_12 (by decide) ?_
    refine lv_icmp_ne (tgt := 23) hx hb d12_fault_13 (by decide) (fun hc13 => ?_) (fun hc13 => ?_)
    · have e := ce_if0 e hc13
      refine lv_iconst (v := (-1 : Int32)) hx hb d12_fault_23 (by decide) ?_
      exact ce_iretE C (ce_sok aK aV B0) hH e d12_fault_24
    · have e := ce_if1 e hc13
      refine lv_aload_n hx hb d12_fault_16 rfl (lv_at hl 0 rfl) ?_
      refine gf_12_22 C hH d12_fault_17 ?_
      refine lv_goto (tgt := 24) hx hb d12_fault_20 (by decide) ?_
      exact ce_iretE C (ce_sok aK aV B0) hH e d12_fault_24
  · have e := ce_if1 e hc1
    refine lv_aload_n hx hb d12_fault_4 rfl (lv_at hl 0 rfl) ?_
    refine gf_12_129 C hH d12_fault_5 ?_
    refine lv_goto (tgt := 24) hx hb d12_fault_8 (by decide) ?_
    exact ce_iretE C (ce_sok aK aV B0) hH e d12_fault_24
abbrev b12_is : ByteArray := prog_14_method_26_code
def y12_is : MethodName := ⟨cn_12, "is", "()Z"⟩
theorem d12_is_0 : decode b12_is 0 = .ok (.aload_n 0, 1) := by decide +kernel
theorem d12_is_1 : decode b12_is 1 = .ok (.getfield 7, 3) := by decide +kernel
theorem d12_is_4 : decode b12_is 4 = .ok (.iconst 3, 1) := by decide +kernel
theorem d12_is_5 : decode b12_is 5 = .ok (.iaload, 1) := by decide +kernel
theorem d12_is_6 : decode b12_is 6 = .ok (.ifCond .le 7, 3) := by decide +kernel
theorem d12_is_9 : decode b12_is 9 = .ok (.iconst 1, 1) := by decide +kernel
theorem d12_is_10 : decode b12_is 10 = .ok (.goto 4, 3) := by decide +kernel
theorem d12_is_13 : decode b12_is 13 = .ok (.iconst 0, 1) := by decide +kernel
theorem d12_is_14 : decode b12_is 14 = .ok (.ireturn, 1) := by decide +kernel
def f12_is (F : Nat)  (h : Hp) : Option (Int32 × Hp) :=
  if (h 69 ((3 : Int32)).toNatClampNeg) ≤ 0 then
    some ((0 : Int32), h)
  else
    some ((1 : Int32), h)
set_option maxRecDepth 20000 in
theorem c12_is (l : Launch) (D : va_G) (ad : Nat → Nat) (cA : Nat → ClassId) (aK aV : Nat → Nat) (B0 : Nat) (hA : ce_Ad ad B0) (F : Nat)   (h : Hp) (r : Int32 × Hp) (e : f12_is F  h = some r) : ce_Ct l D ad cA B0 (ce_St aK aV B0) y12_is b12_is 1 (some .boolean) 0 0 0 0 [.ref (ad 68)] h (some (.int r.1)) r.2 := by
  refine ce_enter hA (by decide) rfl (Nat.le_of_ble_eq_true rfl) (fun p e0 s m below meth c ls C hH hl => ?_)
  have hl : lv_has ls 1 [(0, .ref (ad 68))] := hl
  have hx := C.1
  have hb := C.2.1
  have e : Option.bind _ some = some r := (congrArg (fun z => Option.bind z some) e).trans rfl
  unfold f12_is at e
  refine lv_aload_n hx hb d12_is_0 rfl (lv_at hl 0 rfl) ?_
  refine gf_12_7 C hH d12_is_1 ?_
  refine lv_iconst (v := (3 : Int32)) hx hb d12_is_4 (by decide) ?_
  refine ce_iald C hH lc_69.1 lc_69.2 (ce_in_vp (by decide)) d12_is_5 ?_
  refine lv_if_le (tgt := 13) hx hb d12_is_6 (by decide) (fun hc6 => ?_) (fun hc6 => ?_)
  · have e := ce_if1 e hc6
    refine lv_iconst (v := (0 : Int32)) hx hb d12_is_13 (by decide) ?_
    exact ce_zretE C (ce_sok aK aV B0) hH (Or.inl rfl) e d12_is_14
  · have e := ce_if0 e hc6
    refine lv_iconst (v := (1 : Int32)) hx hb d12_is_9 (by decide) ?_
    refine lv_goto (tgt := 14) hx hb d12_is_10 (by decide) ?_
    exact ce_zretE C (ce_sok aK aV B0) hH (Or.inr rfl) e d12_is_14
abbrev b12_isNode : ByteArray := prog_14_method_27_code
def y12_isNode : MethodName := ⟨cn_12, "isNode", "(I)Z"⟩
theorem d12_isNode_0 : decode b12_isNode 0 = .ok (.iload_n 1, 1) := by decide +kernel
theorem d12_isNode_1 : decode b12_isNode 1 = .ok (.i2l, 1) := by decide +kernel
theorem d12_isNode_2 : decode b12_isNode 2 = .ok (.lconst 0, 1) := by decide +kernel
theorem d12_isNode_3 : decode b12_isNode 3 = .ok (.aload_n 0, 1) := by decide +kernel
theorem d12_isNode_4 : decode b12_isNode 4 = .ok (.getfield 7, 3) := by decide +kernel
theorem d12_isNode_7 : decode b12_isNode 7 = .ok (.iconst 2, 1) := by decide +kernel
theorem d12_isNode_8 : decode b12_isNode 8 = .ok (.iaload, 1) := by decide +kernel
theorem d12_isNode_9 : decode b12_isNode 9 = .ok (.iconst 1, 1) := by decide +kernel
theorem d12_isNode_10 : decode b12_isNode 10 = .ok (.isub, 1) := by decide +kernel
theorem d12_isNode_11 : decode b12_isNode 11 = .ok (.i2l, 1) := by decide +kernel
theorem d12_isNode_12 : decode b12_isNode 12 = .ok (.invokestatic 98, 3) := by decide +kernel
theorem d12_isNode_15 : decode b12_isNode 15 = .ok (.ireturn, 1) := by decide +kernel
def f12_isNode (F : Nat) (x1 : Int32) (h : Hp) : Option (Int32 × Hp) :=
  Option.bind (f12_in F ((x1).toInt64) (0 : Int64) ((((h 69 ((2 : Int32)).toNatClampNeg) - (1 : Int32))).toInt64) h) (fun o12 =>
    if o12.1 = 0 ∨ o12.1 = 1 then some (o12.1, o12.2) else none)
set_option maxRecDepth 20000 in
theorem c12_isNode (l : Launch) (D : va_G) (ad : Nat → Nat) (cA : Nat → ClassId) (aK aV : Nat → Nat) (B0 : Nat) (hA : ce_Ad ad B0) (F : Nat) (x1 : Int32)  (h : Hp) (r : Int32 × Hp) (e : f12_isNode F x1 h = some r) : ce_Ct l D ad cA B0 (ce_St aK aV B0) y12_isNode b12_isNode 2 (some .boolean) 1 25 0 0 [.ref (ad 68), .int x1] h (some (.int r.1)) r.2 := by
  refine ce_enter hA (by decide) rfl (Nat.le_of_ble_eq_true rfl) (fun p e0 s m below meth c ls C hH hl => ?_)
  have hl : lv_has ls 2 [(0, .ref (ad 68)), (1, .int x1)] := hl
  have hx := C.1
  have hb := C.2.1
  have e : Option.bind _ some = some r := (congrArg (fun z => Option.bind z some) e).trans rfl
  unfold f12_isNode at e
  refine lv_iload_n hx hb d12_isNode_0 rfl (lv_at hl 1 rfl) ?_
  refine lv_i2l (v := (x1).toInt64) hx hb d12_isNode_1 rfl ?_
  refine lv_lconst (v := (0 : Int64)) hx hb d12_isNode_2 (by decide) ?_
  refine lv_aload_n hx hb d12_isNode_3 rfl (lv_at hl 0 rfl) ?_
  refine gf_12_7 C hH d12_isNode_4 ?_
  refine lv_iconst (v := (2 : Int32)) hx hb d12_isNode_7 (by decide) ?_
  refine ce_iald C hH lc_69.1 lc_69.2 (ce_in_vp (by decide)) d12_isNode_8 ?_
  refine lv_iconst (v := (1 : Int32)) hx hb d12_isNode_9 (by decide) ?_
  refine lv_isub hx hb d12_isNode_10 ?_
  refine lv_i2l (v := (((h 69 ((2 : Int32)).toNatClampNeg) - (1 : Int32))).toInt64) hx hb d12_isNode_11 rfl ?_
  obtain ⟨o12, eo12, e⟩ := ce_bd e
  refine ce_callS (As := [.long ((x1).toInt64), .long (0 : Int64), .long ((((h 69 ((2 : Int32)).toNatClampNeg) - (1 : Int32))).toInt64)]) (rest := []) C (ce_sok aK aV B0) hH (c12_in l D ad cA aK aV B0 C.2.2.2.2.2.2.1 F ((x1).toInt64) (0 : Int64) ((((h 69 ((2 : Int32)).toNatClampNeg) - (1 : Int32))).toInt64)  h o12 eo12) mc12_in ml_12_98 mt12_in mI_12 (n := 3) (by decide) rfl ⟨Nat.le_of_ble_eq_true rfl, Nat.le_of_ble_eq_true rfl⟩ ⟨Nat.le_of_ble_eq_true rfl, Nat.le_of_ble_eq_true rfl⟩ hl.1 rfl (Nat.le_of_ble_eq_true rfl) d12_isNode_12 (fun H locs hH => ?_)
  refine W.eq (g2 := F0 m 15 ls [.int o12.1]) rfl ?_
  obtain ⟨hz15, e⟩ := ce_gd e
  exact ce_zretE C (ce_sok aK aV B0) hH hz15 e d12_isNode_15
abbrev b12_isPort : ByteArray := prog_14_method_28_code
def y12_isPort : MethodName := ⟨cn_12, "isPort", "(II)Z"⟩
theorem d12_isPort_0 : decode b12_isPort 0 = .ok (.aload_n 0, 1) := by decide +kernel
theorem d12_isPort_1 : decode b12_isPort 1 = .ok (.iload_n 1, 1) := by decide +kernel
theorem d12_isPort_2 : decode b12_isPort 2 = .ok (.invokevirtual 220, 3) := by decide +kernel
theorem d12_isPort_5 : decode b12_isPort 5 = .ok (.ifCond .eq 27, 3) := by decide +kernel
theorem d12_isPort_8 : decode b12_isPort 8 = .ok (.iload_n 2, 1) := by decide +kernel
theorem d12_isPort_9 : decode b12_isPort 9 = .ok (.i2l, 1) := by decide +kernel
theorem d12_isPort_10 : decode b12_isPort 10 = .ok (.lconst 0, 1) := by decide +kernel
theorem d12_isPort_11 : decode b12_isPort 11 = .ok (.aload_n 0, 1) := by decide +kernel
theorem d12_isPort_12 : decode b12_isPort 12 = .ok (.getfield 7, 3) := by decide +kernel
theorem d12_isPort_15 : decode b12_isPort 15 = .ok (.iconst 5, 1) := by decide +kernel
theorem d12_isPort_16 : decode b12_isPort 16 = .ok (.iload_n 1, 1) := by decide +kernel
theorem d12_isPort_17 : decode b12_isPort 17 = .ok (.iadd, 1) := by decide +kernel
theorem d12_isPort_18 : decode b12_isPort 18 = .ok (.iaload, 1) := by decide +kernel
theorem d12_isPort_19 : decode b12_isPort 19 = .ok (.iconst 1, 1) := by decide +kernel
theorem d12_isPort_20 : decode b12_isPort 20 = .ok (.isub, 1) := by decide +kernel
theorem d12_isPort_21 : decode b12_isPort 21 = .ok (.i2l, 1) := by decide +kernel
theorem d12_isPort_22 : decode b12_isPort 22 = .ok (.invokestatic 98, 3) := by decide +kernel
theorem d12_isPort_25 : decode b12_isPort 25 = .ok (.ifCond .eq 7, 3) := by decide +kernel
theorem d12_isPort_28 : decode b12_isPort 28 = .ok (.iconst 1, 1) := by decide +kernel
theorem d12_isPort_29 : decode b12_isPort 29 = .ok (.goto 4, 3) := by decide +kernel
theorem d12_isPort_32 : decode b12_isPort 32 = .ok (.iconst 0, 1) := by decide +kernel
theorem d12_isPort_33 : decode b12_isPort 33 = .ok (.ireturn, 1) := by decide +kernel
theorem mc12_isNode : Cond.code y12_isNode b12_isNode 2 (some .boolean) ∈ ce_cm := ce_cm_of (List.mem_of_getElem? (i := 1395) (by decide +kernel)) (by decide +kernel)
theorem ml_12_220 : Cond.methodLink cn_12 220 y12_isNode ∈ ce_cm := ce_cm_of (List.mem_of_getElem? (i := 1392) (by decide +kernel)) (by decide +kernel)
theorem mi12_isNode : Cond.instanceMethod y12_isNode ∈ ce_cm := ce_cm_of (List.mem_of_getElem? (i := 1394) (by decide +kernel)) (by decide +kernel)
theorem ms12_isNode : Cond.selects cn_12 y12_isNode y12_isNode ∈ ce_cm := ce_cm_of (List.mem_of_getElem? (i := 55) (by decide +kernel)) (by decide +kernel)
def f12_isPort (F : Nat) (x1 : Int32) (x2 : Int32) (h : Hp) : Option (Int32 × Hp) :=
  Option.bind (f12_isNode F x1 h) (fun o2 =>
    if o2.1 = 0 then
      some ((0 : Int32), o2.2)
    else
      if ce_in ((5 : Int32) + x1) 125 = true then
        Option.bind (f12_in F ((x2).toInt64) (0 : Int64) ((((o2.2 69 (((5 : Int32) + x1)).toNatClampNeg) - (1 : Int32))).toInt64) o2.2) (fun o22 =>
          if o22.1 = 0 then
            some ((0 : Int32), o22.2)
          else
            some ((1 : Int32), o22.2))
      else none)
set_option maxRecDepth 20000 in
theorem c12_isPort (l : Launch) (D : va_G) (ad : Nat → Nat) (cA : Nat → ClassId) (aK aV : Nat → Nat) (B0 : Nat) (hA : ce_Ad ad B0) (F : Nat) (x1 : Int32) (x2 : Int32)  (h : Hp) (r : Int32 × Hp) (e : f12_isPort F x1 x2 h = some r) : ce_Ct l D ad cA B0 (ce_St aK aV B0) y12_isPort b12_isPort 3 (some .boolean) 2 46 0 0 [.ref (ad 68), .int x1, .int x2] h (some (.int r.1)) r.2 := by
  refine ce_enter hA (by decide) rfl (Nat.le_of_ble_eq_true rfl) (fun p e0 s m below meth c ls C hH hl => ?_)
  have hl : lv_has ls 3 [(0, .ref (ad 68)), (1, .int x1), (2, .int x2)] := hl
  have hx := C.1
  have hb := C.2.1
  have e : Option.bind _ some = some r := (congrArg (fun z => Option.bind z some) e).trans rfl
  unfold f12_isPort at e
  refine lv_aload_n hx hb d12_isPort_0 rfl (lv_at hl 0 rfl) ?_
  refine lv_iload_n hx hb d12_isPort_1 rfl (lv_at hl 1 rfl) ?_
  obtain ⟨o2, eo2, e⟩ := ce_bd e
  refine ce_callV (As := [.int x1]) (rest := []) C (ce_sok aK aV B0) hH (c12_isNode l D ad cA aK aV B0 C.2.2.2.2.2.2.1 F x1  h o2 eo2) lo_68.1 lo_68.2.choose_spec rfl rfl mc12_isNode ml_12_220 mi12_isNode ms12_isNode mI_12 (n := 1) (by decide) rfl ⟨Nat.le_of_ble_eq_true rfl, Nat.le_of_ble_eq_true rfl⟩ ⟨Nat.le_of_ble_eq_true rfl, Nat.le_of_ble_eq_true rfl⟩ hl.1 rfl (Nat.le_of_ble_eq_true rfl) d12_isPort_2 (fun H locs hH => ?_)
  refine W.eq (g2 := F0 m 5 ls [.int o2.1]) rfl ?_
  refine lv_if_eq (tgt := 32) hx hb d12_isPort_5 (by decide) (fun hc5 => ?_) (fun hc5 => ?_)
  · have e := ce_if1 e hc5
    refine lv_iconst (v := (0 : Int32)) hx hb d12_isPort_32 (by decide) ?_
    exact ce_zretE C (ce_sok aK aV B0) hH (Or.inl rfl) e d12_isPort_33
  · have e := ce_if0 e hc5
    refine lv_iload_n hx hb d12_isPort_8 rfl (lv_at hl 2 rfl) ?_
    refine lv_i2l (v := (x2).toInt64) hx hb d12_isPort_9 rfl ?_
    refine lv_lconst (v := (0 : Int64)) hx hb d12_isPort_10 (by decide) ?_
    refine lv_aload_n hx hb d12_isPort_11 rfl (lv_at hl 0 rfl) ?_
    refine gf_12_7 C hH d12_isPort_12 ?_
    refine lv_iconst (v := (5 : Int32)) hx hb d12_isPort_15 (by decide) ?_
    refine lv_iload_n hx hb d12_isPort_16 rfl (lv_at hl 1 rfl) ?_
    refine lv_iadd hx hb d12_isPort_17 ?_
    obtain ⟨hi18, e⟩ := ce_gd e
    refine ce_iald C hH lc_69.1 lc_69.2 (ce_in_vp hi18) d12_isPort_18 ?_
    refine lv_iconst (v := (1 : Int32)) hx hb d12_isPort_19 (by decide) ?_
    refine lv_isub hx hb d12_isPort_20 ?_
    refine lv_i2l (v := (((o2.2 69 (((5 : Int32) + x1)).toNatClampNeg) - (1 : Int32))).toInt64) hx hb d12_isPort_21 rfl ?_
    obtain ⟨o22, eo22, e⟩ := ce_bd e
    refine ce_callS (As := [.long ((x2).toInt64), .long (0 : Int64), .long ((((o2.2 69 (((5 : Int32) + x1)).toNatClampNeg) - (1 : Int32))).toInt64)]) (rest := []) C (ce_sok aK aV B0) hH (c12_in l D ad cA aK aV B0 C.2.2.2.2.2.2.1 F ((x2).toInt64) (0 : Int64) ((((o2.2 69 (((5 : Int32) + x1)).toNatClampNeg) - (1 : Int32))).toInt64)  o2.2 o22 eo22) mc12_in ml_12_98 mt12_in mI_12 (n := 3) (by decide) rfl ⟨Nat.le_of_ble_eq_true rfl, Nat.le_of_ble_eq_true rfl⟩ ⟨Nat.le_of_ble_eq_true rfl, Nat.le_of_ble_eq_true rfl⟩ hl.1 rfl (Nat.le_of_ble_eq_true rfl) d12_isPort_22 (fun H locs hH => ?_)
    refine W.eq (g2 := F0 m 25 ls [.int o22.1]) rfl ?_
    refine lv_if_eq (tgt := 32) hx hb d12_isPort_25 (by decide) (fun hc25 => ?_) (fun hc25 => ?_)
    · have e := ce_if1 e hc25
      refine lv_iconst (v := (0 : Int32)) hx hb d12_isPort_32 (by decide) ?_
      exact ce_zretE C (ce_sok aK aV B0) hH (Or.inl rfl) e d12_isPort_33
    · have e := ce_if0 e hc25
      refine lv_iconst (v := (1 : Int32)) hx hb d12_isPort_28 (by decide) ?_
      refine lv_goto (tgt := 33) hx hb d12_isPort_29 (by decide) ?_
      exact ce_zretE C (ce_sok aK aV B0) hH (Or.inr rfl) e d12_isPort_33
abbrev b12_otherOf : ByteArray := prog_14_method_29_code
def y12_otherOf : MethodName := ⟨cn_12, "otherOf", "(I)I"⟩
theorem d12_otherOf_0 : decode b12_otherOf 0 = .ok (.aload_n 0, 1) := by decide +kernel
theorem d12_otherOf_1 : decode b12_otherOf 1 = .ok (.getfield 7, 3) := by decide +kernel
theorem d12_otherOf_4 : decode b12_otherOf 4 = .ok (.bipush 45, 2) := by decide +kernel
theorem d12_otherOf_6 : decode b12_otherOf 6 = .ok (.iload_n 1, 1) := by decide +kernel
theorem d12_otherOf_7 : decode b12_otherOf 7 = .ok (.iadd, 1) := by decide +kernel
theorem d12_otherOf_8 : decode b12_otherOf 8 = .ok (.iaload, 1) := by decide +kernel
theorem d12_otherOf_9 : decode b12_otherOf 9 = .ok (.iconst 1, 1) := by decide +kernel
theorem d12_otherOf_10 : decode b12_otherOf 10 = .ok (.isub, 1) := by decide +kernel
theorem d12_otherOf_11 : decode b12_otherOf 11 = .ok (.ireturn, 1) := by decide +kernel
def f12_otherOf (F : Nat) (x1 : Int32) (h : Hp) : Option (Int32 × Hp) :=
  if ce_in ((45 : Int32) + x1) 125 = true then
    some ((h 69 (((45 : Int32) + x1)).toNatClampNeg) - (1 : Int32), h)
  else none
set_option maxRecDepth 20000 in
theorem c12_otherOf (l : Launch) (D : va_G) (ad : Nat → Nat) (cA : Nat → ClassId) (aK aV : Nat → Nat) (B0 : Nat) (hA : ce_Ad ad B0) (F : Nat) (x1 : Int32)  (h : Hp) (r : Int32 × Hp) (e : f12_otherOf F x1 h = some r) : ce_Ct l D ad cA B0 (ce_St aK aV B0) y12_otherOf b12_otherOf 2 (some .int) 0 0 0 0 [.ref (ad 68), .int x1] h (some (.int r.1)) r.2 := by
  refine ce_enter hA (by decide) rfl (Nat.le_of_ble_eq_true rfl) (fun p e0 s m below meth c ls C hH hl => ?_)
  have hl : lv_has ls 2 [(0, .ref (ad 68)), (1, .int x1)] := hl
  have hx := C.1
  have hb := C.2.1
  have e : Option.bind _ some = some r := (congrArg (fun z => Option.bind z some) e).trans rfl
  unfold f12_otherOf at e
  refine lv_aload_n hx hb d12_otherOf_0 rfl (lv_at hl 0 rfl) ?_
  refine gf_12_7 C hH d12_otherOf_1 ?_
  refine lv_bipush (v := (45 : Int32)) hx hb d12_otherOf_4 (by decide) ?_
  refine lv_iload_n hx hb d12_otherOf_6 rfl (lv_at hl 1 rfl) ?_
  refine lv_iadd hx hb d12_otherOf_7 ?_
  obtain ⟨hi8, e⟩ := ce_gd e
  refine ce_iald C hH lc_69.1 lc_69.2 (ce_in_vp hi8) d12_otherOf_8 ?_
  refine lv_iconst (v := (1 : Int32)) hx hb d12_otherOf_9 (by decide) ?_
  refine lv_isub hx hb d12_otherOf_10 ?_
  exact ce_iretE C (ce_sok aK aV B0) hH e d12_otherOf_11
abbrev b12_laysBuses : ByteArray := prog_14_method_30_code
def y12_laysBuses : MethodName := ⟨cn_12, "laysBuses", "()V"⟩
theorem d12_laysBuses_0 : decode b12_laysBuses 0 = .ok (.iconst 0, 1) := by decide +kernel
theorem d12_laysBuses_1 : decode b12_laysBuses 1 = .ok (.istore_n 1, 1) := by decide +kernel
theorem d12_laysBuses_2 : decode b12_laysBuses 2 = .ok (.iload_n 1, 1) := by decide +kernel
theorem d12_laysBuses_3 : decode b12_laysBuses 3 = .ok (.bipush 10, 2) := by decide +kernel
theorem d12_laysBuses_5 : decode b12_laysBuses 5 = .ok (.if_icmp .ge 16, 3) := by decide +kernel
theorem d12_laysBuses_8 : decode b12_laysBuses 8 = .ok (.aload_n 0, 1) := by decide +kernel
theorem d12_laysBuses_9 : decode b12_laysBuses 9 = .ok (.getfield 32, 3) := by decide +kernel
theorem d12_laysBuses_12 : decode b12_laysBuses 12 = .ok (.iload_n 1, 1) := by decide +kernel
theorem d12_laysBuses_13 : decode b12_laysBuses 13 = .ok (.iload_n 1, 1) := by decide +kernel
theorem d12_laysBuses_14 : decode b12_laysBuses 14 = .ok (.iastore, 1) := by decide +kernel
theorem d12_laysBuses_15 : decode b12_laysBuses 15 = .ok (.iinc 1 1, 3) := by decide +kernel
theorem d12_laysBuses_18 : decode b12_laysBuses 18 = .ok (.goto (-16), 3) := by decide +kernel
theorem d12_laysBuses_21 : decode b12_laysBuses 21 = .ok (.iconst 1, 1) := by decide +kernel
theorem d12_laysBuses_22 : decode b12_laysBuses 22 = .ok (.istore_n 1, 1) := by decide +kernel
theorem d12_laysBuses_23 : decode b12_laysBuses 23 = .ok (.iload_n 1, 1) := by decide +kernel
theorem d12_laysBuses_24 : decode b12_laysBuses 24 = .ok (.ifCond .eq 69, 3) := by decide +kernel
theorem d12_laysBuses_27 : decode b12_laysBuses 27 = .ok (.iconst 0, 1) := by decide +kernel
theorem d12_laysBuses_28 : decode b12_laysBuses 28 = .ok (.istore_n 1, 1) := by decide +kernel
theorem d12_laysBuses_29 : decode b12_laysBuses 29 = .ok (.iconst 0, 1) := by decide +kernel
theorem d12_laysBuses_30 : decode b12_laysBuses 30 = .ok (.istore_n 2, 1) := by decide +kernel
theorem d12_laysBuses_31 : decode b12_laysBuses 31 = .ok (.iload_n 2, 1) := by decide +kernel
theorem d12_laysBuses_32 : decode b12_laysBuses 32 = .ok (.bipush 40, 2) := by decide +kernel
theorem d12_laysBuses_34 : decode b12_laysBuses 34 = .ok (.if_icmp .ge 56, 3) := by decide +kernel
theorem d12_laysBuses_37 : decode b12_laysBuses 37 = .ok (.aload_n 0, 1) := by decide +kernel
theorem d12_laysBuses_38 : decode b12_laysBuses 38 = .ok (.iload_n 2, 1) := by decide +kernel
theorem d12_laysBuses_39 : decode b12_laysBuses 39 = .ok (.invokevirtual 224, 3) := by decide +kernel
theorem d12_laysBuses_42 : decode b12_laysBuses 42 = .ok (.istore_n 3, 1) := by decide +kernel
theorem d12_laysBuses_43 : decode b12_laysBuses 43 = .ok (.iload_n 3, 1) := by decide +kernel
theorem d12_laysBuses_44 : decode b12_laysBuses 44 = .ok (.ifCond .lt 40, 3) := by decide +kernel
theorem d12_laysBuses_47 : decode b12_laysBuses 47 = .ok (.aload_n 0, 1) := by decide +kernel
theorem d12_laysBuses_48 : decode b12_laysBuses 48 = .ok (.getfield 32, 3) := by decide +kernel
theorem d12_laysBuses_51 : decode b12_laysBuses 51 = .ok (.iload_n 3, 1) := by decide +kernel
theorem d12_laysBuses_52 : decode b12_laysBuses 52 = .ok (.iconst 4, 1) := by decide +kernel
theorem d12_laysBuses_53 : decode b12_laysBuses 53 = .ok (.idiv, 1) := by decide +kernel
theorem d12_laysBuses_54 : decode b12_laysBuses 54 = .ok (.iaload, 1) := by decide +kernel
theorem d12_laysBuses_55 : decode b12_laysBuses 55 = .ok (.aload_n 0, 1) := by decide +kernel
theorem d12_laysBuses_56 : decode b12_laysBuses 56 = .ok (.getfield 32, 3) := by decide +kernel
theorem d12_laysBuses_59 : decode b12_laysBuses 59 = .ok (.iload_n 2, 1) := by decide +kernel
theorem d12_laysBuses_60 : decode b12_laysBuses 60 = .ok (.iconst 4, 1) := by decide +kernel
theorem d12_laysBuses_61 : decode b12_laysBuses 61 = .ok (.idiv, 1) := by decide +kernel
theorem d12_laysBuses_62 : decode b12_laysBuses 62 = .ok (.iaload, 1) := by decide +kernel
theorem d12_laysBuses_63 : decode b12_laysBuses 63 = .ok (.if_icmp .ge 21, 3) := by decide +kernel
theorem d12_laysBuses_66 : decode b12_laysBuses 66 = .ok (.aload_n 0, 1) := by decide +kernel
theorem d12_laysBuses_67 : decode b12_laysBuses 67 = .ok (.getfield 32, 3) := by decide +kernel
theorem d12_laysBuses_70 : decode b12_laysBuses 70 = .ok (.iload_n 2, 1) := by decide +kernel
theorem d12_laysBuses_71 : decode b12_laysBuses 71 = .ok (.iconst 4, 1) := by decide +kernel
theorem d12_laysBuses_72 : decode b12_laysBuses 72 = .ok (.idiv, 1) := by decide +kernel
theorem d12_laysBuses_73 : decode b12_laysBuses 73 = .ok (.aload_n 0, 1) := by decide +kernel
theorem d12_laysBuses_74 : decode b12_laysBuses 74 = .ok (.getfield 32, 3) := by decide +kernel
theorem d12_laysBuses_77 : decode b12_laysBuses 77 = .ok (.iload_n 3, 1) := by decide +kernel
theorem d12_laysBuses_78 : decode b12_laysBuses 78 = .ok (.iconst 4, 1) := by decide +kernel
theorem d12_laysBuses_79 : decode b12_laysBuses 79 = .ok (.idiv, 1) := by decide +kernel
theorem d12_laysBuses_80 : decode b12_laysBuses 80 = .ok (.iaload, 1) := by decide +kernel
theorem d12_laysBuses_81 : decode b12_laysBuses 81 = .ok (.iastore, 1) := by decide +kernel
theorem d12_laysBuses_82 : decode b12_laysBuses 82 = .ok (.iconst 1, 1) := by decide +kernel
theorem d12_laysBuses_83 : decode b12_laysBuses 83 = .ok (.istore_n 1, 1) := by decide +kernel
theorem d12_laysBuses_84 : decode b12_laysBuses 84 = .ok (.iinc 2 1, 3) := by decide +kernel
theorem d12_laysBuses_87 : decode b12_laysBuses 87 = .ok (.goto (-56), 3) := by decide +kernel
theorem d12_laysBuses_90 : decode b12_laysBuses 90 = .ok (.goto (-67), 3) := by decide +kernel
theorem d12_laysBuses_93 : decode b12_laysBuses 93 = .ok (.return_, 1) := by decide +kernel
theorem fl_12_32 : Cond.fieldLink cn_12 32 (ft_12 15).1 (ft_12 15).2.1 (ft_12 15).2.2.1 ∈ ce_cm := ce_cm_of (List.mem_of_getElem? (i := 1136) (by decide +kernel)) (by decide +kernel)
theorem gf_12_32 (C : ce_Cx p s m args c meth cc nL ret cn_12 D ad cA B0 (ce_St aK aV B0)) (hH : ce_H D ad cA B0 X s h H locs) (hdg : decode cc pc = .ok (.getfield 32, 3)) (kk : W p l e0 R s m args below meth c H locs cells slots Q (F0 m (pc + 3) ls (.ref (ad 75) :: rest))) : W p l e0 R s m args below meth c H locs cells slots Q (F0 m pc ls (.ref (ad 68) :: rest)) := by
  exact ce_get C hH (k := 68) (ci := 12) (j := 15) (N := 43) (sj := some (some 75)) (by decide) rfl rfl fw_12 (by decide) fl_12_32 rfl hdg kk
theorem lc_75 : 75 < 96 ∧ ce_lay 75 = .inl (0, 10) := ⟨by decide, rfl⟩
theorem mc12_otherOf : Cond.code y12_otherOf b12_otherOf 2 (some .int) ∈ ce_cm := ce_cm_of (List.mem_of_getElem? (i := 1363) (by decide +kernel)) (by decide +kernel)
theorem ml_12_224 : Cond.methodLink cn_12 224 y12_otherOf ∈ ce_cm := ce_cm_of (List.mem_of_getElem? (i := 1360) (by decide +kernel)) (by decide +kernel)
theorem mi12_otherOf : Cond.instanceMethod y12_otherOf ∈ ce_cm := ce_cm_of (List.mem_of_getElem? (i := 1362) (by decide +kernel)) (by decide +kernel)
theorem ms12_otherOf : Cond.selects cn_12 y12_otherOf y12_otherOf ∈ ce_cm := ce_cm_of (List.mem_of_getElem? (i := 48) (by decide +kernel)) (by decide +kernel)
def f12_laysBuses_b2 (F : Nat) (x1 : Int32) (h : Hp) : Option ((Int32 × Hp) ⊕ (Hp)) :=
  if (10 : Int32) ≤ x1 then
    some (.inr h)
  else
    if ce_in x1 10 = true then
      ce_nm (hp_up h 75 (x1).toNatClampNeg x1) (fun h_14 =>
        some (.inl (x1 + (1 : Int32), h_14)))
    else none
set_option maxRecDepth 20000 in
theorem l12_laysBuses_2 (C : ce_Cx p s m args c meth b12_laysBuses 4 none cn_12 D ad cA B0 (ce_St aK aV B0)) (F : Nat)   (r : Hp) (g : (Hp) → Option (Hp)) (hx : ∀  (h : Hp) (H : Heap) (locs : List Loc) (ls : Array Slot), ce_H D ad cA B0 [] s h H locs → lv_has ls 4 [(0, .ref (ad 68))] → g h = some r → W p l e0 { frames := 1, cells := 0, slots := 0, locals := 21 } s m args below meth c H locs 0 0 (MQ below (ce_Q D ad cA B0 (ce_St aK aV B0) none r) args s 0 0 (fun q => B0 ≤ q)) (F0 m 21 ls [])) : ∀ (n : Nat) (x1 : Int32) (h : Hp) (H : Heap) (locs : List Loc) (ls : Array Slot), ce_H D ad cA B0 [] s h H locs → lv_has ls 4 [(0, .ref (ad 68)), (1, .int x1)] → Option.bind (ce_it (fun (st : Int32 × Hp) => f12_laysBuses_b2 F  st.1 st.2) n (x1, h)) g = some r → W p l e0 { frames := 1, cells := 0, slots := 0, locals := 21 } s m args below meth c H locs 0 0 (MQ below (ce_Q D ad cA B0 (ce_St aK aV B0) none r) args s 0 0 (fun q => B0 ≤ q)) (F0 m 2 ls []) := by
  intro n
  induction n with
  | zero =>
    intro x1 h H locs ls hH hl e
    exact absurd e (fun z => by cases z)
  | succ n ih =>
    intro x1 h H locs ls hH hl e
    have hx9 := C.1
    have hb := C.2.1
    have e : Option.bind (f12_laysBuses_b2 F  x1 h) _ = some r := ce_it_bd e
    unfold f12_laysBuses_b2 at e
    refine lv_iload_n hx9 hb d12_laysBuses_2 rfl (lv_at hl 1 rfl) ?_
    refine lv_bipush (v := (10 : Int32)) hx9 hb d12_laysBuses_3 (by decide) ?_
    refine lv_icmp_ge (tgt := 21) hx9 hb d12_laysBuses_5 (by decide) (fun hc5 => ?_) (fun hc5 => ?_)
    · have e := ce_if1 e hc5
      exact hx  h _ _ _ hH (lv_sub hl [0] rfl) e
    · have e := ce_if0 e hc5
      refine lv_aload_n hx9 hb d12_laysBuses_8 rfl (lv_at hl 0 rfl) ?_
      refine gf_12_32 C hH d12_laysBuses_9 ?_
      refine lv_iload_n hx9 hb d12_laysBuses_12 rfl (lv_at hl 1 rfl) ?_
      refine lv_iload_n hx9 hb d12_laysBuses_13 rfl (lv_at hl 1 rfl) ?_
      obtain ⟨hi14, e⟩ := ce_gd e
      refine ce_iast C hH lc_75.1 lc_75.2 (ce_in_vp hi14) d12_laysBuses_14 (fun H locs hH => ?_)
      obtain ⟨h_14, eh_14, e⟩ := ce_nmE e
      rw [← eh_14] at hH
      refine lv_iinc (v := x1 + (1 : Int32)) (lv' := [(1, .int (x1 + (1 : Int32))), (0, .ref (ad 68))]) hx9 hb d12_laysBuses_15 hl (k := 1) rfl rfl (by decide) rfl (fun ls hl => ?_)
      refine lv_goto (tgt := 2) hx9 hb d12_laysBuses_18 (by decide) ?_
      exact ih (x1 + (1 : Int32)) h_14 _ _ _ hH (lv_sub hl [1, 0] rfl) e
def f12_laysBuses_b31 (F : Nat) (x1 : Int32) (x2 : Int32) (h : Hp) : Option ((Int32 × Int32 × Hp) ⊕ (Int32 × Hp)) :=
  if (40 : Int32) ≤ x2 then
    some (.inr (x1, h))
  else
    Option.bind (f12_otherOf F x2 h) (fun o39 =>
      if o39.1 < 0 then
        some (.inl (x1, x2 + (1 : Int32), o39.2))
      else
        if ce_in (o39.1 / (4 : Int32)) 10 = true then
          if ce_in (x2 / (4 : Int32)) 10 = true then
            if (o39.2 75 ((x2 / (4 : Int32))).toNatClampNeg) ≤ (o39.2 75 ((o39.1 / (4 : Int32))).toNatClampNeg) then
              some (.inl (x1, x2 + (1 : Int32), o39.2))
            else
              if ce_in (o39.1 / (4 : Int32)) 10 = true then
                if ce_in (x2 / (4 : Int32)) 10 = true then
                  ce_nm (hp_up o39.2 75 ((x2 / (4 : Int32))).toNatClampNeg (o39.2 75 ((o39.1 / (4 : Int32))).toNatClampNeg)) (fun h_81 =>
                    some (.inl ((1 : Int32), x2 + (1 : Int32), h_81)))
                else none
              else none
          else none
        else none)
set_option maxRecDepth 20000 in
theorem l12_laysBuses_31 (C : ce_Cx p s m args c meth b12_laysBuses 4 none cn_12 D ad cA B0 (ce_St aK aV B0)) (F : Nat)   (r : Hp) (g : (Int32 × Hp) → Option (Hp)) (hx : ∀ (x1 : Int32) (h : Hp) (H : Heap) (locs : List Loc) (ls : Array Slot), ce_H D ad cA B0 [] s h H locs → lv_has ls 4 [(0, .ref (ad 68)), (1, .int x1)] → g (x1, h) = some r → W p l e0 { frames := 1, cells := 0, slots := 0, locals := 21 } s m args below meth c H locs 0 0 (MQ below (ce_Q D ad cA B0 (ce_St aK aV B0) none r) args s 0 0 (fun q => B0 ≤ q)) (F0 m 90 ls [])) : ∀ (n : Nat) (x1 : Int32) (x2 : Int32) (h : Hp) (H : Heap) (locs : List Loc) (ls : Array Slot), ce_H D ad cA B0 [] s h H locs → lv_has ls 4 [(0, .ref (ad 68)), (1, .int x1), (2, .int x2)] → Option.bind (ce_it (fun (st : Int32 × Int32 × Hp) => f12_laysBuses_b31 F  st.1 st.2.1 st.2.2) n (x1, x2, h)) g = some r → W p l e0 { frames := 1, cells := 0, slots := 0, locals := 21 } s m args below meth c H locs 0 0 (MQ below (ce_Q D ad cA B0 (ce_St aK aV B0) none r) args s 0 0 (fun q => B0 ≤ q)) (F0 m 31 ls []) := by
  intro n
  induction n with
  | zero =>
    intro x1 x2 h H locs ls hH hl e
    exact absurd e (fun z => by cases z)
  | succ n ih =>
    intro x1 x2 h H locs ls hH hl e
    have hx9 := C.1
    have hb := C.2.1
    have e : Option.bind (f12_laysBuses_b31 F  x1 x2 h) _ = some r := ce_it_bd e
    unfold f12_laysBuses_b31 at e
    refine lv_iload_n hx9 hb d12_laysBuses_31 rfl (lv_at hl 2 rfl) ?_
    refine lv_bipush (v := (40 : Int32)) hx9 hb d12_laysBuses_32 (by decide) ?_
    refine lv_icmp_ge (tgt := 90) hx9 hb d12_laysBuses_34 (by decide) (fun hc34 => ?_) (fun hc34 => ?_)
    · have e := ce_if1 e hc34
      exact hx x1 h _ _ _ hH (lv_sub hl [0, 1] rfl) e
    · have e := ce_if0 e hc34
      refine lv_aload_n hx9 hb d12_laysBuses_37 rfl (lv_at hl 0 rfl) ?_
      refine lv_iload_n hx9 hb d12_laysBuses_38 rfl (lv_at hl 2 rfl) ?_
      obtain ⟨o39, eo39, e⟩ := ce_bd e
      refine ce_callV (As := [.int x2]) (rest := []) C (ce_sok aK aV B0) hH (c12_otherOf l D ad cA aK aV B0 C.2.2.2.2.2.2.1 F x2  h o39 eo39) lo_68.1 lo_68.2.choose_spec rfl rfl mc12_otherOf ml_12_224 mi12_otherOf ms12_otherOf mI_12 (n := 1) (by decide) rfl ⟨Nat.le_of_ble_eq_true rfl, Nat.le_of_ble_eq_true rfl⟩ ⟨Nat.le_of_ble_eq_true rfl, Nat.le_of_ble_eq_true rfl⟩ hl.1 rfl (Nat.le_of_ble_eq_true rfl) d12_laysBuses_39 (fun H locs hH => ?_)
      refine W.eq (g2 := F0 m 42 ls [.int o39.1]) rfl ?_
      refine lv_istore_n (lv' := [(3, .int o39.1), (0, .ref (ad 68)), (1, .int x1), (2, .int x2)]) hx9 hb d12_laysBuses_42 rfl hl (by decide) rfl (fun ls hl => ?_)
      refine lv_iload_n hx9 hb d12_laysBuses_43 rfl (lv_at hl 0 rfl) ?_
      refine lv_if_lt (tgt := 84) hx9 hb d12_laysBuses_44 (by decide) (fun hc44 => ?_) (fun hc44 => ?_)
      · have e := ce_if1 e hc44
        refine lv_iinc (v := x2 + (1 : Int32)) (lv' := [(2, .int (x2 + (1 : Int32))), (3, .int o39.1), (0, .ref (ad 68)), (1, .int x1)]) hx9 hb d12_laysBuses_84 hl (k := 3) rfl rfl (by decide) rfl (fun ls hl => ?_)
        refine lv_goto (tgt := 31) hx9 hb d12_laysBuses_87 (by decide) ?_
        exact ih x1 (x2 + (1 : Int32)) o39.2 _ _ _ hH (lv_sub hl [2, 3, 0] rfl) e
      · have e := ce_if0 e hc44
        refine lv_aload_n hx9 hb d12_laysBuses_47 rfl (lv_at hl 1 rfl) ?_
        refine gf_12_32 C hH d12_laysBuses_48 ?_
        refine lv_iload_n hx9 hb d12_laysBuses_51 rfl (lv_at hl 0 rfl) ?_
        refine lv_iconst (v := (4 : Int32)) hx9 hb d12_laysBuses_52 (by decide) ?_
        refine lv_idiv hx9 hb d12_laysBuses_53 (by decide) ?_
        obtain ⟨hi54, e⟩ := ce_gd e
        refine ce_iald C hH lc_75.1 lc_75.2 (ce_in_vp hi54) d12_laysBuses_54 ?_
        refine lv_aload_n hx9 hb d12_laysBuses_55 rfl (lv_at hl 1 rfl) ?_
        refine gf_12_32 C hH d12_laysBuses_56 ?_
        refine lv_iload_n hx9 hb d12_laysBuses_59 rfl (lv_at hl 3 rfl) ?_
        refine lv_iconst (v := (4 : Int32)) hx9 hb d12_laysBuses_60 (by decide) ?_
        refine lv_idiv hx9 hb d12_laysBuses_61 (by decide) ?_
        obtain ⟨hi62, e⟩ := ce_gd e
        refine ce_iald C hH lc_75.1 lc_75.2 (ce_in_vp hi62) d12_laysBuses_62 ?_
        refine lv_icmp_ge (tgt := 84) hx9 hb d12_laysBuses_63 (by decide) (fun hc63 => ?_) (fun hc63 => ?_)
        · have e := ce_if1 e hc63
          refine lv_iinc (v := x2 + (1 : Int32)) (lv' := [(2, .int (x2 + (1 : Int32))), (3, .int o39.1), (0, .ref (ad 68)), (1, .int x1)]) hx9 hb d12_laysBuses_84 hl (k := 3) rfl rfl (by decide) rfl (fun ls hl => ?_)
          refine lv_goto (tgt := 31) hx9 hb d12_laysBuses_87 (by decide) ?_
          exact ih x1 (x2 + (1 : Int32)) o39.2 _ _ _ hH (lv_sub hl [2, 3, 0] rfl) e
        · have e := ce_if0 e hc63
          refine lv_aload_n hx9 hb d12_laysBuses_66 rfl (lv_at hl 1 rfl) ?_
          refine gf_12_32 C hH d12_laysBuses_67 ?_
          refine lv_iload_n hx9 hb d12_laysBuses_70 rfl (lv_at hl 3 rfl) ?_
          refine lv_iconst (v := (4 : Int32)) hx9 hb d12_laysBuses_71 (by decide) ?_
          refine lv_idiv hx9 hb d12_laysBuses_72 (by decide) ?_
          refine lv_aload_n hx9 hb d12_laysBuses_73 rfl (lv_at hl 1 rfl) ?_
          refine gf_12_32 C hH d12_laysBuses_74 ?_
          refine lv_iload_n hx9 hb d12_laysBuses_77 rfl (lv_at hl 0 rfl) ?_
          refine lv_iconst (v := (4 : Int32)) hx9 hb d12_laysBuses_78 (by decide) ?_
          refine lv_idiv hx9 hb d12_laysBuses_79 (by decide) ?_
          obtain ⟨hi80, e⟩ := ce_gd e
          refine ce_iald C hH lc_75.1 lc_75.2 (ce_in_vp hi80) d12_laysBuses_80 ?_
          obtain ⟨hi81, e⟩ := ce_gd e
          refine ce_iast C hH lc_75.1 lc_75.2 (ce_in_vp hi81) d12_laysBuses_81 (fun H locs hH => ?_)
          obtain ⟨h_81, eh_81, e⟩ := ce_nmE e
          rw [← eh_81] at hH
          refine lv_iconst (v := (1 : Int32)) hx9 hb d12_laysBuses_82 (by decide) ?_
          refine lv_istore_n (lv' := [(1, .int (1 : Int32)), (3, .int o39.1), (0, .ref (ad 68)), (2, .int x2)]) hx9 hb d12_laysBuses_83 rfl hl (by decide) rfl (fun ls hl => ?_)
          refine lv_iinc (v := x2 + (1 : Int32)) (lv' := [(2, .int (x2 + (1 : Int32))), (1, .int (1 : Int32)), (3, .int o39.1), (0, .ref (ad 68))]) hx9 hb d12_laysBuses_84 hl (k := 3) rfl rfl (by decide) rfl (fun ls hl => ?_)
          refine lv_goto (tgt := 31) hx9 hb d12_laysBuses_87 (by decide) ?_
          exact ih (1 : Int32) (x2 + (1 : Int32)) h_81 _ _ _ hH (lv_sub hl [3, 1, 0] rfl) e
def f12_laysBuses_b23 (F : Nat) (x1 : Int32) (h : Hp) : Option ((Int32 × Hp) ⊕ (Hp)) :=
  if x1 = 0 then
    some (.inr h)
  else
    Option.bind (ce_it (fun (st : Int32 × Int32 × Hp) => f12_laysBuses_b31 F  st.1 st.2.1 st.2.2) F ((0 : Int32), (0 : Int32), h)) (fun o31 =>
      some (.inl (o31.1, o31.2)))
set_option maxRecDepth 20000 in
theorem l12_laysBuses_23 (C : ce_Cx p s m args c meth b12_laysBuses 4 none cn_12 D ad cA B0 (ce_St aK aV B0)) (F : Nat)   (r : Hp) (g : (Hp) → Option (Hp)) (hx : ∀  (h : Hp) (H : Heap) (locs : List Loc) (ls : Array Slot), ce_H D ad cA B0 [] s h H locs → lv_has ls 4 [] → g h = some r → W p l e0 { frames := 1, cells := 0, slots := 0, locals := 21 } s m args below meth c H locs 0 0 (MQ below (ce_Q D ad cA B0 (ce_St aK aV B0) none r) args s 0 0 (fun q => B0 ≤ q)) (F0 m 93 ls [])) : ∀ (n : Nat) (x1 : Int32) (h : Hp) (H : Heap) (locs : List Loc) (ls : Array Slot), ce_H D ad cA B0 [] s h H locs → lv_has ls 4 [(0, .ref (ad 68)), (1, .int x1)] → Option.bind (ce_it (fun (st : Int32 × Hp) => f12_laysBuses_b23 F  st.1 st.2) n (x1, h)) g = some r → W p l e0 { frames := 1, cells := 0, slots := 0, locals := 21 } s m args below meth c H locs 0 0 (MQ below (ce_Q D ad cA B0 (ce_St aK aV B0) none r) args s 0 0 (fun q => B0 ≤ q)) (F0 m 23 ls []) := by
  intro n
  induction n with
  | zero =>
    intro x1 h H locs ls hH hl e
    exact absurd e (fun z => by cases z)
  | succ n ih =>
    intro x1 h H locs ls hH hl e
    have hx9 := C.1
    have hb := C.2.1
    have e : Option.bind (f12_laysBuses_b23 F  x1 h) _ = some r := ce_it_bd e
    unfold f12_laysBuses_b23 at e
    refine lv_iload_n hx9 hb d12_laysBuses_23 rfl (lv_at hl 1 rfl) ?_
    refine lv_if_eq (tgt := 93) hx9 hb d12_laysBuses_24 (by decide) (fun hc24 => ?_) (fun hc24 => ?_)
    · have e := ce_if1 e hc24
      exact hx  h _ _ _ hH (lv_sub hl [] rfl) e
    · have e := ce_if0 e hc24
      refine lv_iconst (v := (0 : Int32)) hx9 hb d12_laysBuses_27 (by decide) ?_
      refine lv_istore_n (lv' := [(1, .int (0 : Int32)), (0, .ref (ad 68))]) hx9 hb d12_laysBuses_28 rfl hl (by decide) rfl (fun ls hl => ?_)
      refine lv_iconst (v := (0 : Int32)) hx9 hb d12_laysBuses_29 (by decide) ?_
      refine lv_istore_n (lv' := [(2, .int (0 : Int32)), (1, .int (0 : Int32)), (0, .ref (ad 68))]) hx9 hb d12_laysBuses_30 rfl hl (by decide) rfl (fun ls hl => ?_)
      refine l12_laysBuses_31 C F   r _ (fun y31_1 h_31 H locs ls hH hl e => ?_) F (0 : Int32) (0 : Int32) h _ _ _ hH (lv_sub hl [2, 1, 0] rfl) (ce_as e)
      try dsimp only at e
      refine lv_goto (tgt := 23) hx9 hb d12_laysBuses_90 (by decide) ?_
      exact ih y31_1 h_31 _ _ _ hH (lv_sub hl [0, 1] rfl) e
def f12_laysBuses (F : Nat)  (h : Hp) : Option (Hp) :=
  Option.bind (ce_it (fun (st : Int32 × Hp) => f12_laysBuses_b2 F  st.1 st.2) F ((0 : Int32), h)) (fun o2 =>
    Option.bind (ce_it (fun (st : Int32 × Hp) => f12_laysBuses_b23 F  st.1 st.2) F ((1 : Int32), o2)) (fun o23 =>
      some o23))
set_option maxRecDepth 20000 in
theorem c12_laysBuses (l : Launch) (D : va_G) (ad : Nat → Nat) (cA : Nat → ClassId) (aK aV : Nat → Nat) (B0 : Nat) (hA : ce_Ad ad B0) (F : Nat)   (h : Hp) (r : Hp) (e : f12_laysBuses F  h = some r) : ce_Ct l D ad cA B0 (ce_St aK aV B0) y12_laysBuses b12_laysBuses 4 none 1 21 0 0 [.ref (ad 68)] h none r := by
  refine ce_enter hA (by decide) rfl (Nat.le_of_ble_eq_true rfl) (fun p e0 s m below meth c ls C hH hl => ?_)
  have hl : lv_has ls 4 [(0, .ref (ad 68))] := hl
  have hx := C.1
  have hb := C.2.1
  have e : Option.bind _ some = some r := (congrArg (fun z => Option.bind z some) e).trans rfl
  unfold f12_laysBuses at e
  refine lv_iconst (v := (0 : Int32)) hx hb d12_laysBuses_0 (by decide) ?_
  refine lv_istore_n (lv' := [(1, .int (0 : Int32)), (0, .ref (ad 68))]) hx hb d12_laysBuses_1 rfl hl (by decide) rfl (fun ls hl => ?_)
  refine l12_laysBuses_2 C F   r _ (fun  h_2 H locs ls hH hl e => ?_) F (0 : Int32) h _ _ _ hH (lv_sub hl [1, 0] rfl) (ce_as e)
  try dsimp only at e
  refine lv_iconst (v := (1 : Int32)) hx hb d12_laysBuses_21 (by decide) ?_
  refine lv_istore_n (lv' := [(1, .int (1 : Int32)), (0, .ref (ad 68))]) hx hb d12_laysBuses_22 rfl hl (by decide) rfl (fun ls hl => ?_)
  refine l12_laysBuses_23 C F   r _ (fun  h_23 H locs ls hH hl e => ?_) F (1 : Int32) h_2 _ _ _ hH (lv_sub hl [1, 0] rfl) (ce_as e)
  try dsimp only at e
  exact ce_vret C (ce_sok aK aV B0) hH (Option.some.inj e) d12_laysBuses_93
abbrev b12_busesOf : ByteArray := prog_14_method_31_code
def y12_busesOf : MethodName := ⟨cn_12, "busesOf", "()I"⟩
theorem d12_busesOf_0 : decode b12_busesOf 0 = .ok (.aload_n 0, 1) := by decide +kernel
theorem d12_busesOf_1 : decode b12_busesOf 1 = .ok (.invokevirtual 227, 3) := by decide +kernel
theorem d12_busesOf_4 : decode b12_busesOf 4 = .ok (.iconst 0, 1) := by decide +kernel
theorem d12_busesOf_5 : decode b12_busesOf 5 = .ok (.istore_n 1, 1) := by decide +kernel
theorem d12_busesOf_6 : decode b12_busesOf 6 = .ok (.iconst 0, 1) := by decide +kernel
theorem d12_busesOf_7 : decode b12_busesOf 7 = .ok (.istore_n 2, 1) := by decide +kernel
theorem d12_busesOf_8 : decode b12_busesOf 8 = .ok (.iload_n 2, 1) := by decide +kernel
theorem d12_busesOf_9 : decode b12_busesOf 9 = .ok (.aload_n 0, 1) := by decide +kernel
theorem d12_busesOf_10 : decode b12_busesOf 10 = .ok (.getfield 7, 3) := by decide +kernel
theorem d12_busesOf_13 : decode b12_busesOf 13 = .ok (.iconst 2, 1) := by decide +kernel
theorem d12_busesOf_14 : decode b12_busesOf 14 = .ok (.iaload, 1) := by decide +kernel
theorem d12_busesOf_15 : decode b12_busesOf 15 = .ok (.if_icmp .ge 27, 3) := by decide +kernel
theorem d12_busesOf_18 : decode b12_busesOf 18 = .ok (.iload_n 1, 1) := by decide +kernel
theorem d12_busesOf_19 : decode b12_busesOf 19 = .ok (.aload_n 0, 1) := by decide +kernel
theorem d12_busesOf_20 : decode b12_busesOf 20 = .ok (.getfield 32, 3) := by decide +kernel
theorem d12_busesOf_23 : decode b12_busesOf 23 = .ok (.iload_n 2, 1) := by decide +kernel
theorem d12_busesOf_24 : decode b12_busesOf 24 = .ok (.iaload, 1) := by decide +kernel
theorem d12_busesOf_25 : decode b12_busesOf 25 = .ok (.iload_n 2, 1) := by decide +kernel
theorem d12_busesOf_26 : decode b12_busesOf 26 = .ok (.if_icmp .ne 7, 3) := by decide +kernel
theorem d12_busesOf_29 : decode b12_busesOf 29 = .ok (.iconst 1, 1) := by decide +kernel
theorem d12_busesOf_30 : decode b12_busesOf 30 = .ok (.goto 4, 3) := by decide +kernel
theorem d12_busesOf_33 : decode b12_busesOf 33 = .ok (.iconst 0, 1) := by decide +kernel
theorem d12_busesOf_34 : decode b12_busesOf 34 = .ok (.iadd, 1) := by decide +kernel
theorem d12_busesOf_35 : decode b12_busesOf 35 = .ok (.istore_n 1, 1) := by decide +kernel
theorem d12_busesOf_36 : decode b12_busesOf 36 = .ok (.iinc 2 1, 3) := by decide +kernel
theorem d12_busesOf_39 : decode b12_busesOf 39 = .ok (.goto (-31), 3) := by decide +kernel
theorem d12_busesOf_42 : decode b12_busesOf 42 = .ok (.iload_n 1, 1) := by decide +kernel
theorem d12_busesOf_43 : decode b12_busesOf 43 = .ok (.ireturn, 1) := by decide +kernel
theorem mc12_laysBuses : Cond.code y12_laysBuses b12_laysBuses 4 none ∈ ce_cm := ce_cm_of (List.mem_of_getElem? (i := 1371) (by decide +kernel)) (by decide +kernel)
theorem ml_12_227 : Cond.methodLink cn_12 227 y12_laysBuses ∈ ce_cm := ce_cm_of (List.mem_of_getElem? (i := 1368) (by decide +kernel)) (by decide +kernel)
theorem mi12_laysBuses : Cond.instanceMethod y12_laysBuses ∈ ce_cm := ce_cm_of (List.mem_of_getElem? (i := 1370) (by decide +kernel)) (by decide +kernel)
theorem ms12_laysBuses : Cond.selects cn_12 y12_laysBuses y12_laysBuses ∈ ce_cm := ce_cm_of (List.mem_of_getElem? (i := 50) (by decide +kernel)) (by decide +kernel)
def f12_busesOf_b8 (F : Nat) (x1 : Int32) (x2 : Int32) (h : Hp) : Option ((Int32 × Int32 × Hp) ⊕ (Int32 × Hp)) :=
  if (h 69 ((2 : Int32)).toNatClampNeg) ≤ x2 then
    some (.inr (x1, h))
  else
    if ce_in x2 10 = true then
      if (h 75 (x2).toNatClampNeg) = x2 then
        some (.inl (x1 + (1 : Int32), x2 + (1 : Int32), h))
      else
        some (.inl (x1 + (0 : Int32), x2 + (1 : Int32), h))
    else none
set_option maxRecDepth 20000 in
theorem l12_busesOf_8 (C : ce_Cx p s m args c meth b12_busesOf 3 (some .int) cn_12 D ad cA B0 (ce_St aK aV B0)) (F : Nat)   (r : Int32 × Hp) (g : (Int32 × Hp) → Option (Int32 × Hp)) (hx : ∀ (x1 : Int32) (h : Hp) (H : Heap) (locs : List Loc) (ls : Array Slot), ce_H D ad cA B0 [] s h H locs → lv_has ls 3 [(1, .int x1)] → g (x1, h) = some r → W p l e0 { frames := 2, cells := 0, slots := 0, locals := 44 } s m args below meth c H locs 0 0 (MQ below (ce_Q D ad cA B0 (ce_St aK aV B0) (some (.int r.1)) r.2) args s 0 0 (fun q => B0 ≤ q)) (F0 m 42 ls [])) : ∀ (n : Nat) (x1 : Int32) (x2 : Int32) (h : Hp) (H : Heap) (locs : List Loc) (ls : Array Slot), ce_H D ad cA B0 [] s h H locs → lv_has ls 3 [(0, .ref (ad 68)), (1, .int x1), (2, .int x2)] → Option.bind (ce_it (fun (st : Int32 × Int32 × Hp) => f12_busesOf_b8 F  st.1 st.2.1 st.2.2) n (x1, x2, h)) g = some r → W p l e0 { frames := 2, cells := 0, slots := 0, locals := 44 } s m args below meth c H locs 0 0 (MQ below (ce_Q D ad cA B0 (ce_St aK aV B0) (some (.int r.1)) r.2) args s 0 0 (fun q => B0 ≤ q)) (F0 m 8 ls []) := by
  intro n
  induction n with
  | zero =>
    intro x1 x2 h H locs ls hH hl e
    exact absurd e (fun z => by cases z)
  | succ n ih =>
    intro x1 x2 h H locs ls hH hl e
    have hx9 := C.1
    have hb := C.2.1
    have e : Option.bind (f12_busesOf_b8 F  x1 x2 h) _ = some r := ce_it_bd e
    unfold f12_busesOf_b8 at e
    refine lv_iload_n hx9 hb d12_busesOf_8 rfl (lv_at hl 2 rfl) ?_
    refine lv_aload_n hx9 hb d12_busesOf_9 rfl (lv_at hl 0 rfl) ?_
    refine gf_12_7 C hH d12_busesOf_10 ?_
    refine lv_iconst (v := (2 : Int32)) hx9 hb d12_busesOf_13 (by decide) ?_
    refine ce_iald C hH lc_69.1 lc_69.2 (ce_in_vp (by decide)) d12_busesOf_14 ?_
    refine lv_icmp_ge (tgt := 42) hx9 hb d12_busesOf_15 (by decide) (fun hc15 => ?_) (fun hc15 => ?_)
    · have e := ce_if1 e hc15
      exact hx x1 h _ _ _ hH (lv_sub hl [1] rfl) e
    · have e := ce_if0 e hc15
      refine lv_iload_n hx9 hb d12_busesOf_18 rfl (lv_at hl 1 rfl) ?_
      refine lv_aload_n hx9 hb d12_busesOf_19 rfl (lv_at hl 0 rfl) ?_
      refine gf_12_32 C hH d12_busesOf_20 ?_
      refine lv_iload_n hx9 hb d12_busesOf_23 rfl (lv_at hl 2 rfl) ?_
      obtain ⟨hi24, e⟩ := ce_gd e
      refine ce_iald C hH lc_75.1 lc_75.2 (ce_in_vp hi24) d12_busesOf_24 ?_
      refine lv_iload_n hx9 hb d12_busesOf_25 rfl (lv_at hl 2 rfl) ?_
      refine lv_icmp_ne (tgt := 33) hx9 hb d12_busesOf_26 (by decide) (fun hc26 => ?_) (fun hc26 => ?_)
      · have e := ce_if0 e hc26
        refine lv_iconst (v := (0 : Int32)) hx9 hb d12_busesOf_33 (by decide) ?_
        refine lv_iadd hx9 hb d12_busesOf_34 ?_
        refine lv_istore_n (lv' := [(1, .int (x1 + (0 : Int32))), (0, .ref (ad 68)), (2, .int x2)]) hx9 hb d12_busesOf_35 rfl hl (by decide) rfl (fun ls hl => ?_)
        refine lv_iinc (v := x2 + (1 : Int32)) (lv' := [(2, .int (x2 + (1 : Int32))), (1, .int (x1 + (0 : Int32))), (0, .ref (ad 68))]) hx9 hb d12_busesOf_36 hl (k := 2) rfl rfl (by decide) rfl (fun ls hl => ?_)
        refine lv_goto (tgt := 8) hx9 hb d12_busesOf_39 (by decide) ?_
        exact ih (x1 + (0 : Int32)) (x2 + (1 : Int32)) h _ _ _ hH (lv_sub hl [2, 1, 0] rfl) e
      · have e := ce_if1 e hc26
        refine lv_iconst (v := (1 : Int32)) hx9 hb d12_busesOf_29 (by decide) ?_
        refine lv_goto (tgt := 34) hx9 hb d12_busesOf_30 (by decide) ?_
        refine lv_iadd hx9 hb d12_busesOf_34 ?_
        refine lv_istore_n (lv' := [(1, .int (x1 + (1 : Int32))), (0, .ref (ad 68)), (2, .int x2)]) hx9 hb d12_busesOf_35 rfl hl (by decide) rfl (fun ls hl => ?_)
        refine lv_iinc (v := x2 + (1 : Int32)) (lv' := [(2, .int (x2 + (1 : Int32))), (1, .int (x1 + (1 : Int32))), (0, .ref (ad 68))]) hx9 hb d12_busesOf_36 hl (k := 2) rfl rfl (by decide) rfl (fun ls hl => ?_)
        refine lv_goto (tgt := 8) hx9 hb d12_busesOf_39 (by decide) ?_
        exact ih (x1 + (1 : Int32)) (x2 + (1 : Int32)) h _ _ _ hH (lv_sub hl [2, 1, 0] rfl) e
def f12_busesOf (F : Nat)  (h : Hp) : Option (Int32 × Hp) :=
  Option.bind (f12_laysBuses F  h) (fun o1 =>
    Option.bind (ce_it (fun (st : Int32 × Int32 × Hp) => f12_busesOf_b8 F  st.1 st.2.1 st.2.2) F ((0 : Int32), (0 : Int32), o1)) (fun o8 =>
      some (o8.1, o8.2)))
set_option maxRecDepth 20000 in
theorem c12_busesOf (l : Launch) (D : va_G) (ad : Nat → Nat) (cA : Nat → ClassId) (aK aV : Nat → Nat) (B0 : Nat) (hA : ce_Ad ad B0) (F : Nat)   (h : Hp) (r : Int32 × Hp) (e : f12_busesOf F  h = some r) : ce_Ct l D ad cA B0 (ce_St aK aV B0) y12_busesOf b12_busesOf 3 (some .int) 2 44 0 0 [.ref (ad 68)] h (some (.int r.1)) r.2 := by
  refine ce_enter hA (by decide) rfl (Nat.le_of_ble_eq_true rfl) (fun p e0 s m below meth c ls C hH hl => ?_)
  have hl : lv_has ls 3 [(0, .ref (ad 68))] := hl
  have hx := C.1
  have hb := C.2.1
  have e : Option.bind _ some = some r := (congrArg (fun z => Option.bind z some) e).trans rfl
  unfold f12_busesOf at e
  refine lv_aload_n hx hb d12_busesOf_0 rfl (lv_at hl 0 rfl) ?_
  obtain ⟨o1, eo1, e⟩ := ce_bd e
  refine ce_callV (As := []) (rest := []) C (ce_sok aK aV B0) hH (c12_laysBuses l D ad cA aK aV B0 C.2.2.2.2.2.2.1 F   h o1 eo1) lo_68.1 lo_68.2.choose_spec rfl rfl mc12_laysBuses ml_12_227 mi12_laysBuses ms12_laysBuses mI_12 (n := 0) (by decide) rfl ⟨Nat.le_of_ble_eq_true rfl, Nat.le_of_ble_eq_true rfl⟩ ⟨Nat.le_of_ble_eq_true rfl, Nat.le_of_ble_eq_true rfl⟩ hl.1 rfl (Nat.le_of_ble_eq_true rfl) d12_busesOf_1 (fun H locs hH => ?_)
  refine W.eq (g2 := F0 m 4 ls []) rfl ?_
  refine lv_iconst (v := (0 : Int32)) hx hb d12_busesOf_4 (by decide) ?_
  refine lv_istore_n (lv' := [(1, .int (0 : Int32)), (0, .ref (ad 68))]) hx hb d12_busesOf_5 rfl hl (by decide) rfl (fun ls hl => ?_)
  refine lv_iconst (v := (0 : Int32)) hx hb d12_busesOf_6 (by decide) ?_
  refine lv_istore_n (lv' := [(2, .int (0 : Int32)), (1, .int (0 : Int32)), (0, .ref (ad 68))]) hx hb d12_busesOf_7 rfl hl (by decide) rfl (fun ls hl => ?_)
  refine l12_busesOf_8 C F   r _ (fun y8_1 h_8 H locs ls hH hl e => ?_) F (0 : Int32) (0 : Int32) o1 _ _ _ hH (lv_sub hl [2, 1, 0] rfl) (ce_as e)
  try dsimp only at e
  refine lv_iload_n hx hb d12_busesOf_42 rfl (lv_at hl 0 rfl) ?_
  exact ce_iretE C (ce_sok aK aV B0) hH e d12_busesOf_43
abbrev b12_sizeOf : ByteArray := prog_14_method_32_code
def y12_sizeOf : MethodName := ⟨cn_12, "sizeOf", "(I)I"⟩
theorem d12_sizeOf_0 : decode b12_sizeOf 0 = .ok (.aload_n 0, 1) := by decide +kernel
theorem d12_sizeOf_1 : decode b12_sizeOf 1 = .ok (.invokevirtual 227, 3) := by decide +kernel
theorem d12_sizeOf_4 : decode b12_sizeOf 4 = .ok (.iconst 0, 1) := by decide +kernel
theorem d12_sizeOf_5 : decode b12_sizeOf 5 = .ok (.istore_n 2, 1) := by decide +kernel
theorem d12_sizeOf_6 : decode b12_sizeOf 6 = .ok (.iconst 0, 1) := by decide +kernel
theorem d12_sizeOf_7 : decode b12_sizeOf 7 = .ok (.istore_n 3, 1) := by decide +kernel
theorem d12_sizeOf_8 : decode b12_sizeOf 8 = .ok (.iload_n 3, 1) := by decide +kernel
theorem d12_sizeOf_9 : decode b12_sizeOf 9 = .ok (.aload_n 0, 1) := by decide +kernel
theorem d12_sizeOf_10 : decode b12_sizeOf 10 = .ok (.getfield 7, 3) := by decide +kernel
theorem d12_sizeOf_13 : decode b12_sizeOf 13 = .ok (.iconst 2, 1) := by decide +kernel
theorem d12_sizeOf_14 : decode b12_sizeOf 14 = .ok (.iaload, 1) := by decide +kernel
theorem d12_sizeOf_15 : decode b12_sizeOf 15 = .ok (.if_icmp .ge 32, 3) := by decide +kernel
theorem d12_sizeOf_18 : decode b12_sizeOf 18 = .ok (.iload_n 2, 1) := by decide +kernel
theorem d12_sizeOf_19 : decode b12_sizeOf 19 = .ok (.aload_n 0, 1) := by decide +kernel
theorem d12_sizeOf_20 : decode b12_sizeOf 20 = .ok (.getfield 32, 3) := by decide +kernel
theorem d12_sizeOf_23 : decode b12_sizeOf 23 = .ok (.iload_n 3, 1) := by decide +kernel
theorem d12_sizeOf_24 : decode b12_sizeOf 24 = .ok (.iaload, 1) := by decide +kernel
theorem d12_sizeOf_25 : decode b12_sizeOf 25 = .ok (.aload_n 0, 1) := by decide +kernel
theorem d12_sizeOf_26 : decode b12_sizeOf 26 = .ok (.getfield 32, 3) := by decide +kernel
theorem d12_sizeOf_29 : decode b12_sizeOf 29 = .ok (.iload_n 1, 1) := by decide +kernel
theorem d12_sizeOf_30 : decode b12_sizeOf 30 = .ok (.iaload, 1) := by decide +kernel
theorem d12_sizeOf_31 : decode b12_sizeOf 31 = .ok (.if_icmp .ne 7, 3) := by decide +kernel
theorem d12_sizeOf_34 : decode b12_sizeOf 34 = .ok (.iconst 1, 1) := by decide +kernel
theorem d12_sizeOf_35 : decode b12_sizeOf 35 = .ok (.goto 4, 3) := by decide +kernel
theorem d12_sizeOf_38 : decode b12_sizeOf 38 = .ok (.iconst 0, 1) := by decide +kernel
theorem d12_sizeOf_39 : decode b12_sizeOf 39 = .ok (.iadd, 1) := by decide +kernel
theorem d12_sizeOf_40 : decode b12_sizeOf 40 = .ok (.istore_n 2, 1) := by decide +kernel
theorem d12_sizeOf_41 : decode b12_sizeOf 41 = .ok (.iinc 3 1, 3) := by decide +kernel
theorem d12_sizeOf_44 : decode b12_sizeOf 44 = .ok (.goto (-36), 3) := by decide +kernel
theorem d12_sizeOf_47 : decode b12_sizeOf 47 = .ok (.iload_n 2, 1) := by decide +kernel
theorem d12_sizeOf_48 : decode b12_sizeOf 48 = .ok (.ireturn, 1) := by decide +kernel
def f12_sizeOf_b8 (F : Nat) (x1 : Int32) (x2 : Int32) (x3 : Int32) (h : Hp) : Option ((Int32 × Int32 × Hp) ⊕ (Int32 × Hp)) :=
  if (h 69 ((2 : Int32)).toNatClampNeg) ≤ x3 then
    some (.inr (x2, h))
  else
    if ce_in x3 10 = true then
      if ce_in x1 10 = true then
        if (h 75 (x3).toNatClampNeg) = (h 75 (x1).toNatClampNeg) then
          some (.inl (x2 + (1 : Int32), x3 + (1 : Int32), h))
        else
          some (.inl (x2 + (0 : Int32), x3 + (1 : Int32), h))
      else none
    else none
set_option maxRecDepth 20000 in
theorem l12_sizeOf_8 (C : ce_Cx p s m args c meth b12_sizeOf 4 (some .int) cn_12 D ad cA B0 (ce_St aK aV B0)) (F : Nat) (x1 : Int32)  (r : Int32 × Hp) (g : (Int32 × Hp) → Option (Int32 × Hp)) (hx : ∀ (x2 : Int32) (h : Hp) (H : Heap) (locs : List Loc) (ls : Array Slot), ce_H D ad cA B0 [] s h H locs → lv_has ls 4 [(2, .int x2)] → g (x2, h) = some r → W p l e0 { frames := 2, cells := 0, slots := 0, locals := 44 } s m args below meth c H locs 0 0 (MQ below (ce_Q D ad cA B0 (ce_St aK aV B0) (some (.int r.1)) r.2) args s 0 0 (fun q => B0 ≤ q)) (F0 m 47 ls [])) : ∀ (n : Nat) (x2 : Int32) (x3 : Int32) (h : Hp) (H : Heap) (locs : List Loc) (ls : Array Slot), ce_H D ad cA B0 [] s h H locs → lv_has ls 4 [(0, .ref (ad 68)), (1, .int x1), (2, .int x2), (3, .int x3)] → Option.bind (ce_it (fun (st : Int32 × Int32 × Hp) => f12_sizeOf_b8 F x1 st.1 st.2.1 st.2.2) n (x2, x3, h)) g = some r → W p l e0 { frames := 2, cells := 0, slots := 0, locals := 44 } s m args below meth c H locs 0 0 (MQ below (ce_Q D ad cA B0 (ce_St aK aV B0) (some (.int r.1)) r.2) args s 0 0 (fun q => B0 ≤ q)) (F0 m 8 ls []) := by
  intro n
  induction n with
  | zero =>
    intro x2 x3 h H locs ls hH hl e
    exact absurd e (fun z => by cases z)
  | succ n ih =>
    intro x2 x3 h H locs ls hH hl e
    have hx9 := C.1
    have hb := C.2.1
    have e : Option.bind (f12_sizeOf_b8 F x1 x2 x3 h) _ = some r := ce_it_bd e
    unfold f12_sizeOf_b8 at e
    refine lv_iload_n hx9 hb d12_sizeOf_8 rfl (lv_at hl 3 rfl) ?_
    refine lv_aload_n hx9 hb d12_sizeOf_9 rfl (lv_at hl 0 rfl) ?_
    refine gf_12_7 C hH d12_sizeOf_10 ?_
    refine lv_iconst (v := (2 : Int32)) hx9 hb d12_sizeOf_13 (by decide) ?_
    refine ce_iald C hH lc_69.1 lc_69.2 (ce_in_vp (by decide)) d12_sizeOf_14 ?_
    refine lv_icmp_ge (tgt := 47) hx9 hb d12_sizeOf_15 (by decide) (fun hc15 => ?_) (fun hc15 => ?_)
    · have e := ce_if1 e hc15
      exact hx x2 h _ _ _ hH (lv_sub hl [2] rfl) e
    · have e := ce_if0 e hc15
      refine lv_iload_n hx9 hb d12_sizeOf_18 rfl (lv_at hl 2 rfl) ?_
      refine lv_aload_n hx9 hb d12_sizeOf_19 rfl (lv_at hl 0 rfl) ?_
      refine gf_12_32 C hH d12_sizeOf_20 ?_
      refine lv_iload_n hx9 hb d12_sizeOf_23 rfl (lv_at hl 3 rfl) ?_
      obtain ⟨hi24, e⟩ := ce_gd e
      refine ce_iald C hH lc_75.1 lc_75.2 (ce_in_vp hi24) d12_sizeOf_24 ?_
      refine lv_aload_n hx9 hb d12_sizeOf_25 rfl (lv_at hl 0 rfl) ?_
      refine gf_12_32 C hH d12_sizeOf_26 ?_
      refine lv_iload_n hx9 hb d12_sizeOf_29 rfl (lv_at hl 1 rfl) ?_
      obtain ⟨hi30, e⟩ := ce_gd e
      refine ce_iald C hH lc_75.1 lc_75.2 (ce_in_vp hi30) d12_sizeOf_30 ?_
      refine lv_icmp_ne (tgt := 38) hx9 hb d12_sizeOf_31 (by decide) (fun hc31 => ?_) (fun hc31 => ?_)
      · have e := ce_if0 e hc31
        refine lv_iconst (v := (0 : Int32)) hx9 hb d12_sizeOf_38 (by decide) ?_
        refine lv_iadd hx9 hb d12_sizeOf_39 ?_
        refine lv_istore_n (lv' := [(2, .int (x2 + (0 : Int32))), (0, .ref (ad 68)), (1, .int x1), (3, .int x3)]) hx9 hb d12_sizeOf_40 rfl hl (by decide) rfl (fun ls hl => ?_)
        refine lv_iinc (v := x3 + (1 : Int32)) (lv' := [(3, .int (x3 + (1 : Int32))), (2, .int (x2 + (0 : Int32))), (0, .ref (ad 68)), (1, .int x1)]) hx9 hb d12_sizeOf_41 hl (k := 3) rfl rfl (by decide) rfl (fun ls hl => ?_)
        refine lv_goto (tgt := 8) hx9 hb d12_sizeOf_44 (by decide) ?_
        exact ih (x2 + (0 : Int32)) (x3 + (1 : Int32)) h _ _ _ hH (lv_sub hl [2, 3, 1, 0] rfl) e
      · have e := ce_if1 e hc31
        refine lv_iconst (v := (1 : Int32)) hx9 hb d12_sizeOf_34 (by decide) ?_
        refine lv_goto (tgt := 39) hx9 hb d12_sizeOf_35 (by decide) ?_
        refine lv_iadd hx9 hb d12_sizeOf_39 ?_
        refine lv_istore_n (lv' := [(2, .int (x2 + (1 : Int32))), (0, .ref (ad 68)), (1, .int x1), (3, .int x3)]) hx9 hb d12_sizeOf_40 rfl hl (by decide) rfl (fun ls hl => ?_)
        refine lv_iinc (v := x3 + (1 : Int32)) (lv' := [(3, .int (x3 + (1 : Int32))), (2, .int (x2 + (1 : Int32))), (0, .ref (ad 68)), (1, .int x1)]) hx9 hb d12_sizeOf_41 hl (k := 3) rfl rfl (by decide) rfl (fun ls hl => ?_)
        refine lv_goto (tgt := 8) hx9 hb d12_sizeOf_44 (by decide) ?_
        exact ih (x2 + (1 : Int32)) (x3 + (1 : Int32)) h _ _ _ hH (lv_sub hl [2, 3, 1, 0] rfl) e
def f12_sizeOf (F : Nat) (x1 : Int32) (h : Hp) : Option (Int32 × Hp) :=
  Option.bind (f12_laysBuses F  h) (fun o1 =>
    Option.bind (ce_it (fun (st : Int32 × Int32 × Hp) => f12_sizeOf_b8 F x1 st.1 st.2.1 st.2.2) F ((0 : Int32), (0 : Int32), o1)) (fun o8 =>
      some (o8.1, o8.2)))
set_option maxRecDepth 20000 in
theorem c12_sizeOf (l : Launch) (D : va_G) (ad : Nat → Nat) (cA : Nat → ClassId) (aK aV : Nat → Nat) (B0 : Nat) (hA : ce_Ad ad B0) (F : Nat) (x1 : Int32)  (h : Hp) (r : Int32 × Hp) (e : f12_sizeOf F x1 h = some r) : ce_Ct l D ad cA B0 (ce_St aK aV B0) y12_sizeOf b12_sizeOf 4 (some .int) 2 44 0 0 [.ref (ad 68), .int x1] h (some (.int r.1)) r.2 := by
  refine ce_enter hA (by decide) rfl (Nat.le_of_ble_eq_true rfl) (fun p e0 s m below meth c ls C hH hl => ?_)
  have hl : lv_has ls 4 [(0, .ref (ad 68)), (1, .int x1)] := hl
  have hx := C.1
  have hb := C.2.1
  have e : Option.bind _ some = some r := (congrArg (fun z => Option.bind z some) e).trans rfl
  unfold f12_sizeOf at e
  refine lv_aload_n hx hb d12_sizeOf_0 rfl (lv_at hl 0 rfl) ?_
  obtain ⟨o1, eo1, e⟩ := ce_bd e
  refine ce_callV (As := []) (rest := []) C (ce_sok aK aV B0) hH (c12_laysBuses l D ad cA aK aV B0 C.2.2.2.2.2.2.1 F   h o1 eo1) lo_68.1 lo_68.2.choose_spec rfl rfl mc12_laysBuses ml_12_227 mi12_laysBuses ms12_laysBuses mI_12 (n := 0) (by decide) rfl ⟨Nat.le_of_ble_eq_true rfl, Nat.le_of_ble_eq_true rfl⟩ ⟨Nat.le_of_ble_eq_true rfl, Nat.le_of_ble_eq_true rfl⟩ hl.1 rfl (Nat.le_of_ble_eq_true rfl) d12_sizeOf_1 (fun H locs hH => ?_)
  refine W.eq (g2 := F0 m 4 ls []) rfl ?_
  refine lv_iconst (v := (0 : Int32)) hx hb d12_sizeOf_4 (by decide) ?_
  refine lv_istore_n (lv' := [(2, .int (0 : Int32)), (0, .ref (ad 68)), (1, .int x1)]) hx hb d12_sizeOf_5 rfl hl (by decide) rfl (fun ls hl => ?_)
  refine lv_iconst (v := (0 : Int32)) hx hb d12_sizeOf_6 (by decide) ?_
  refine lv_istore_n (lv' := [(3, .int (0 : Int32)), (2, .int (0 : Int32)), (0, .ref (ad 68)), (1, .int x1)]) hx hb d12_sizeOf_7 rfl hl (by decide) rfl (fun ls hl => ?_)
  refine l12_sizeOf_8 C F x1  r _ (fun y8_2 h_8 H locs ls hH hl e => ?_) F (0 : Int32) (0 : Int32) o1 _ _ _ hH (lv_sub hl [2, 3, 1, 0] rfl) (ce_as e)
  try dsimp only at e
  refine lv_iload_n hx hb d12_sizeOf_47 rfl (lv_at hl 0 rfl) ?_
  exact ce_iretE C (ce_sok aK aV B0) hH e d12_sizeOf_48
abbrev b12_isLoop : ByteArray := prog_14_method_33_code
def y12_isLoop : MethodName := ⟨cn_12, "isLoop", "(I)Z"⟩
theorem d12_isLoop_0 : decode b12_isLoop 0 = .ok (.aload_n 0, 1) := by decide +kernel
theorem d12_isLoop_1 : decode b12_isLoop 1 = .ok (.iload_n 1, 1) := by decide +kernel
theorem d12_isLoop_2 : decode b12_isLoop 2 = .ok (.invokevirtual 230, 3) := by decide +kernel
theorem d12_isLoop_5 : decode b12_isLoop 5 = .ok (.istore_n 2, 1) := by decide +kernel
theorem d12_isLoop_6 : decode b12_isLoop 6 = .ok (.iconst 0, 1) := by decide +kernel
theorem d12_isLoop_7 : decode b12_isLoop 7 = .ok (.istore_n 3, 1) := by decide +kernel
theorem d12_isLoop_8 : decode b12_isLoop 8 = .ok (.iconst 0, 1) := by decide +kernel
theorem d12_isLoop_9 : decode b12_isLoop 9 = .ok (.istore 4, 2) := by decide +kernel
theorem d12_isLoop_11 : decode b12_isLoop 11 = .ok (.iload 4, 2) := by decide +kernel
theorem d12_isLoop_13 : decode b12_isLoop 13 = .ok (.bipush 40, 2) := by decide +kernel
theorem d12_isLoop_15 : decode b12_isLoop 15 = .ok (.if_icmp .ge 44, 3) := by decide +kernel
theorem d12_isLoop_18 : decode b12_isLoop 18 = .ok (.iload_n 3, 1) := by decide +kernel
theorem d12_isLoop_19 : decode b12_isLoop 19 = .ok (.aload_n 0, 1) := by decide +kernel
theorem d12_isLoop_20 : decode b12_isLoop 20 = .ok (.iload 4, 2) := by decide +kernel
theorem d12_isLoop_22 : decode b12_isLoop 22 = .ok (.invokevirtual 224, 3) := by decide +kernel
theorem d12_isLoop_25 : decode b12_isLoop 25 = .ok (.ifCond .lt 25, 3) := by decide +kernel
theorem d12_isLoop_28 : decode b12_isLoop 28 = .ok (.aload_n 0, 1) := by decide +kernel
theorem d12_isLoop_29 : decode b12_isLoop 29 = .ok (.getfield 32, 3) := by decide +kernel
theorem d12_isLoop_32 : decode b12_isLoop 32 = .ok (.iload 4, 2) := by decide +kernel
theorem d12_isLoop_34 : decode b12_isLoop 34 = .ok (.iconst 4, 1) := by decide +kernel
theorem d12_isLoop_35 : decode b12_isLoop 35 = .ok (.idiv, 1) := by decide +kernel
theorem d12_isLoop_36 : decode b12_isLoop 36 = .ok (.iaload, 1) := by decide +kernel
theorem d12_isLoop_37 : decode b12_isLoop 37 = .ok (.aload_n 0, 1) := by decide +kernel
theorem d12_isLoop_38 : decode b12_isLoop 38 = .ok (.getfield 32, 3) := by decide +kernel
theorem d12_isLoop_41 : decode b12_isLoop 41 = .ok (.iload_n 1, 1) := by decide +kernel
theorem d12_isLoop_42 : decode b12_isLoop 42 = .ok (.iaload, 1) := by decide +kernel
theorem d12_isLoop_43 : decode b12_isLoop 43 = .ok (.if_icmp .ne 7, 3) := by decide +kernel
theorem d12_isLoop_46 : decode b12_isLoop 46 = .ok (.iconst 1, 1) := by decide +kernel
theorem d12_isLoop_47 : decode b12_isLoop 47 = .ok (.goto 4, 3) := by decide +kernel
theorem d12_isLoop_50 : decode b12_isLoop 50 = .ok (.iconst 0, 1) := by decide +kernel
theorem d12_isLoop_51 : decode b12_isLoop 51 = .ok (.iadd, 1) := by decide +kernel
theorem d12_isLoop_52 : decode b12_isLoop 52 = .ok (.istore_n 3, 1) := by decide +kernel
theorem d12_isLoop_53 : decode b12_isLoop 53 = .ok (.iinc 4 1, 3) := by decide +kernel
theorem d12_isLoop_56 : decode b12_isLoop 56 = .ok (.goto (-45), 3) := by decide +kernel
theorem d12_isLoop_59 : decode b12_isLoop 59 = .ok (.iload_n 3, 1) := by decide +kernel
theorem d12_isLoop_60 : decode b12_isLoop 60 = .ok (.iconst 2, 1) := by decide +kernel
theorem d12_isLoop_61 : decode b12_isLoop 61 = .ok (.idiv, 1) := by decide +kernel
theorem d12_isLoop_62 : decode b12_isLoop 62 = .ok (.iload_n 2, 1) := by decide +kernel
theorem d12_isLoop_63 : decode b12_isLoop 63 = .ok (.if_icmp .lt 7, 3) := by decide +kernel
theorem d12_isLoop_66 : decode b12_isLoop 66 = .ok (.iconst 1, 1) := by decide +kernel
theorem d12_isLoop_67 : decode b12_isLoop 67 = .ok (.goto 4, 3) := by decide +kernel
theorem d12_isLoop_70 : decode b12_isLoop 70 = .ok (.iconst 0, 1) := by decide +kernel
theorem d12_isLoop_71 : decode b12_isLoop 71 = .ok (.ireturn, 1) := by decide +kernel
theorem mc12_sizeOf : Cond.code y12_sizeOf b12_sizeOf 4 (some .int) ∈ ce_cm := ce_cm_of (List.mem_of_getElem? (i := 1383) (by decide +kernel)) (by decide +kernel)
theorem ml_12_230 : Cond.methodLink cn_12 230 y12_sizeOf ∈ ce_cm := ce_cm_of (List.mem_of_getElem? (i := 1380) (by decide +kernel)) (by decide +kernel)
theorem mi12_sizeOf : Cond.instanceMethod y12_sizeOf ∈ ce_cm := ce_cm_of (List.mem_of_getElem? (i := 1382) (by decide +kernel)) (by decide +kernel)
theorem ms12_sizeOf : Cond.selects cn_12 y12_sizeOf y12_sizeOf ∈ ce_cm := ce_cm_of (List.mem_of_getElem? (i := 53) (by decide +kernel)) (by decide +kernel)
def f12_isLoop_b11 (F : Nat) (x1 : Int32) (x2 : Int32) (x3 : Int32) (x4 : Int32) (h : Hp) : Option ((Int32 × Int32 × Hp) ⊕ (Int32 × Hp)) :=
  if (40 : Int32) ≤ x4 then
    some (.inr (x3, h))
  else
    Option.bind (f12_otherOf F x4 h) (fun o22 =>
      if o22.1 < 0 then
        some (.inl (x3 + (0 : Int32), x4 + (1 : Int32), o22.2))
      else
        if ce_in (x4 / (4 : Int32)) 10 = true then
          if ce_in x1 10 = true then
            if (o22.2 75 ((x4 / (4 : Int32))).toNatClampNeg) = (o22.2 75 (x1).toNatClampNeg) then
              some (.inl (x3 + (1 : Int32), x4 + (1 : Int32), o22.2))
            else
              some (.inl (x3 + (0 : Int32), x4 + (1 : Int32), o22.2))
          else none
        else none)
set_option maxRecDepth 20000 in
theorem l12_isLoop_11 (C : ce_Cx p s m args c meth b12_isLoop 5 (some .boolean) cn_12 D ad cA B0 (ce_St aK aV B0)) (F : Nat) (x1 : Int32) (x2 : Int32)  (r : Int32 × Hp) (g : (Int32 × Hp) → Option (Int32 × Hp)) (hx : ∀ (x3 : Int32) (h : Hp) (H : Heap) (locs : List Loc) (ls : Array Slot), ce_H D ad cA B0 [] s h H locs → lv_has ls 5 [(2, .int x2), (3, .int x3)] → g (x3, h) = some r → W p l e0 { frames := 3, cells := 0, slots := 0, locals := 67 } s m args below meth c H locs 0 0 (MQ below (ce_Q D ad cA B0 (ce_St aK aV B0) (some (.int r.1)) r.2) args s 0 0 (fun q => B0 ≤ q)) (F0 m 59 ls [])) : ∀ (n : Nat) (x3 : Int32) (x4 : Int32) (h : Hp) (H : Heap) (locs : List Loc) (ls : Array Slot), ce_H D ad cA B0 [] s h H locs → lv_has ls 5 [(0, .ref (ad 68)), (1, .int x1), (2, .int x2), (3, .int x3), (4, .int x4)] → Option.bind (ce_it (fun (st : Int32 × Int32 × Hp) => f12_isLoop_b11 F x1 x2 st.1 st.2.1 st.2.2) n (x3, x4, h)) g = some r → W p l e0 { frames := 3, cells := 0, slots := 0, locals := 67 } s m args below meth c H locs 0 0 (MQ below (ce_Q D ad cA B0 (ce_St aK aV B0) (some (.int r.1)) r.2) args s 0 0 (fun q => B0 ≤ q)) (F0 m 11 ls []) := by
  intro n
  induction n with
  | zero =>
    intro x3 x4 h H locs ls hH hl e
    exact absurd e (fun z => by cases z)
  | succ n ih =>
    intro x3 x4 h H locs ls hH hl e
    have hx9 := C.1
    have hb := C.2.1
    have e : Option.bind (f12_isLoop_b11 F x1 x2 x3 x4 h) _ = some r := ce_it_bd e
    unfold f12_isLoop_b11 at e
    refine lv_iload hx9 hb d12_isLoop_11 (lv_at hl 4 rfl) ?_
    refine lv_bipush (v := (40 : Int32)) hx9 hb d12_isLoop_13 (by decide) ?_
    refine lv_icmp_ge (tgt := 59) hx9 hb d12_isLoop_15 (by decide) (fun hc15 => ?_) (fun hc15 => ?_)
    · have e := ce_if1 e hc15
      exact hx x3 h _ _ _ hH (lv_sub hl [2, 3] rfl) e
    · have e := ce_if0 e hc15
      refine lv_iload_n hx9 hb d12_isLoop_18 rfl (lv_at hl 3 rfl) ?_
      refine lv_aload_n hx9 hb d12_isLoop_19 rfl (lv_at hl 0 rfl) ?_
      refine lv_iload hx9 hb d12_isLoop_20 (lv_at hl 4 rfl) ?_
      obtain ⟨o22, eo22, e⟩ := ce_bd e
      refine ce_callV (As := [.int x4]) (rest := [.int x3]) C (ce_sok aK aV B0) hH (c12_otherOf l D ad cA aK aV B0 C.2.2.2.2.2.2.1 F x4  h o22 eo22) lo_68.1 lo_68.2.choose_spec rfl rfl mc12_otherOf ml_12_224 mi12_otherOf ms12_otherOf mI_12 (n := 1) (by decide) rfl ⟨Nat.le_of_ble_eq_true rfl, Nat.le_of_ble_eq_true rfl⟩ ⟨Nat.le_of_ble_eq_true rfl, Nat.le_of_ble_eq_true rfl⟩ hl.1 rfl (Nat.le_of_ble_eq_true rfl) d12_isLoop_22 (fun H locs hH => ?_)
      refine W.eq (g2 := F0 m 25 ls [.int o22.1, .int x3]) rfl ?_
      refine lv_if_lt (tgt := 50) hx9 hb d12_isLoop_25 (by decide) (fun hc25 => ?_) (fun hc25 => ?_)
      · have e := ce_if1 e hc25
        refine lv_iconst (v := (0 : Int32)) hx9 hb d12_isLoop_50 (by decide) ?_
        refine lv_iadd hx9 hb d12_isLoop_51 ?_
        refine lv_istore_n (lv' := [(3, .int (x3 + (0 : Int32))), (0, .ref (ad 68)), (1, .int x1), (2, .int x2), (4, .int x4)]) hx9 hb d12_isLoop_52 rfl hl (by decide) rfl (fun ls hl => ?_)
        refine lv_iinc (v := x4 + (1 : Int32)) (lv' := [(4, .int (x4 + (1 : Int32))), (3, .int (x3 + (0 : Int32))), (0, .ref (ad 68)), (1, .int x1), (2, .int x2)]) hx9 hb d12_isLoop_53 hl (k := 4) rfl rfl (by decide) rfl (fun ls hl => ?_)
        refine lv_goto (tgt := 11) hx9 hb d12_isLoop_56 (by decide) ?_
        exact ih (x3 + (0 : Int32)) (x4 + (1 : Int32)) o22.2 _ _ _ hH (lv_sub hl [2, 3, 4, 1, 0] rfl) e
      · have e := ce_if0 e hc25
        refine lv_aload_n hx9 hb d12_isLoop_28 rfl (lv_at hl 0 rfl) ?_
        refine gf_12_32 C hH d12_isLoop_29 ?_
        refine lv_iload hx9 hb d12_isLoop_32 (lv_at hl 4 rfl) ?_
        refine lv_iconst (v := (4 : Int32)) hx9 hb d12_isLoop_34 (by decide) ?_
        refine lv_idiv hx9 hb d12_isLoop_35 (by decide) ?_
        obtain ⟨hi36, e⟩ := ce_gd e
        refine ce_iald C hH lc_75.1 lc_75.2 (ce_in_vp hi36) d12_isLoop_36 ?_
        refine lv_aload_n hx9 hb d12_isLoop_37 rfl (lv_at hl 0 rfl) ?_
        refine gf_12_32 C hH d12_isLoop_38 ?_
        refine lv_iload_n hx9 hb d12_isLoop_41 rfl (lv_at hl 1 rfl) ?_
        obtain ⟨hi42, e⟩ := ce_gd e
        refine ce_iald C hH lc_75.1 lc_75.2 (ce_in_vp hi42) d12_isLoop_42 ?_
        refine lv_icmp_ne (tgt := 50) hx9 hb d12_isLoop_43 (by decide) (fun hc43 => ?_) (fun hc43 => ?_)
        · have e := ce_if0 e hc43
          refine lv_iconst (v := (0 : Int32)) hx9 hb d12_isLoop_50 (by decide) ?_
          refine lv_iadd hx9 hb d12_isLoop_51 ?_
          refine lv_istore_n (lv' := [(3, .int (x3 + (0 : Int32))), (0, .ref (ad 68)), (1, .int x1), (2, .int x2), (4, .int x4)]) hx9 hb d12_isLoop_52 rfl hl (by decide) rfl (fun ls hl => ?_)
          refine lv_iinc (v := x4 + (1 : Int32)) (lv' := [(4, .int (x4 + (1 : Int32))), (3, .int (x3 + (0 : Int32))), (0, .ref (ad 68)), (1, .int x1), (2, .int x2)]) hx9 hb d12_isLoop_53 hl (k := 4) rfl rfl (by decide) rfl (fun ls hl => ?_)
          refine lv_goto (tgt := 11) hx9 hb d12_isLoop_56 (by decide) ?_
          exact ih (x3 + (0 : Int32)) (x4 + (1 : Int32)) o22.2 _ _ _ hH (lv_sub hl [2, 3, 4, 1, 0] rfl) e
        · have e := ce_if1 e hc43
          refine lv_iconst (v := (1 : Int32)) hx9 hb d12_isLoop_46 (by decide) ?_
          refine lv_goto (tgt := 51) hx9 hb d12_isLoop_47 (by decide) ?_
          refine lv_iadd hx9 hb d12_isLoop_51 ?_
          refine lv_istore_n (lv' := [(3, .int (x3 + (1 : Int32))), (0, .ref (ad 68)), (1, .int x1), (2, .int x2), (4, .int x4)]) hx9 hb d12_isLoop_52 rfl hl (by decide) rfl (fun ls hl => ?_)
          refine lv_iinc (v := x4 + (1 : Int32)) (lv' := [(4, .int (x4 + (1 : Int32))), (3, .int (x3 + (1 : Int32))), (0, .ref (ad 68)), (1, .int x1), (2, .int x2)]) hx9 hb d12_isLoop_53 hl (k := 4) rfl rfl (by decide) rfl (fun ls hl => ?_)
          refine lv_goto (tgt := 11) hx9 hb d12_isLoop_56 (by decide) ?_
          exact ih (x3 + (1 : Int32)) (x4 + (1 : Int32)) o22.2 _ _ _ hH (lv_sub hl [2, 3, 4, 1, 0] rfl) e
def f12_isLoop (F : Nat) (x1 : Int32) (h : Hp) : Option (Int32 × Hp) :=
  Option.bind (f12_sizeOf F x1 h) (fun o2 =>
    Option.bind (ce_it (fun (st : Int32 × Int32 × Hp) => f12_isLoop_b11 F x1 o2.1 st.1 st.2.1 st.2.2) F ((0 : Int32), (0 : Int32), o2.2)) (fun o11 =>
      if (o11.1 / (2 : Int32)) < o2.1 then
        some ((0 : Int32), o11.2)
      else
        some ((1 : Int32), o11.2)))
set_option maxRecDepth 20000 in
theorem c12_isLoop (l : Launch) (D : va_G) (ad : Nat → Nat) (cA : Nat → ClassId) (aK aV : Nat → Nat) (B0 : Nat) (hA : ce_Ad ad B0) (F : Nat) (x1 : Int32)  (h : Hp) (r : Int32 × Hp) (e : f12_isLoop F x1 h = some r) : ce_Ct l D ad cA B0 (ce_St aK aV B0) y12_isLoop b12_isLoop 5 (some .boolean) 3 67 0 0 [.ref (ad 68), .int x1] h (some (.int r.1)) r.2 := by
  refine ce_enter hA (by decide) rfl (Nat.le_of_ble_eq_true rfl) (fun p e0 s m below meth c ls C hH hl => ?_)
  have hl : lv_has ls 5 [(0, .ref (ad 68)), (1, .int x1)] := hl
  have hx := C.1
  have hb := C.2.1
  have e : Option.bind _ some = some r := (congrArg (fun z => Option.bind z some) e).trans rfl
  unfold f12_isLoop at e
  refine lv_aload_n hx hb d12_isLoop_0 rfl (lv_at hl 0 rfl) ?_
  refine lv_iload_n hx hb d12_isLoop_1 rfl (lv_at hl 1 rfl) ?_
  obtain ⟨o2, eo2, e⟩ := ce_bd e
  refine ce_callV (As := [.int x1]) (rest := []) C (ce_sok aK aV B0) hH (c12_sizeOf l D ad cA aK aV B0 C.2.2.2.2.2.2.1 F x1  h o2 eo2) lo_68.1 lo_68.2.choose_spec rfl rfl mc12_sizeOf ml_12_230 mi12_sizeOf ms12_sizeOf mI_12 (n := 1) (by decide) rfl ⟨Nat.le_of_ble_eq_true rfl, Nat.le_of_ble_eq_true rfl⟩ ⟨Nat.le_of_ble_eq_true rfl, Nat.le_of_ble_eq_true rfl⟩ hl.1 rfl (Nat.le_of_ble_eq_true rfl) d12_isLoop_2 (fun H locs hH => ?_)
  refine W.eq (g2 := F0 m 5 ls [.int o2.1]) rfl ?_
  refine lv_istore_n (lv' := [(2, .int o2.1), (0, .ref (ad 68)), (1, .int x1)]) hx hb d12_isLoop_5 rfl hl (by decide) rfl (fun ls hl => ?_)
  refine lv_iconst (v := (0 : Int32)) hx hb d12_isLoop_6 (by decide) ?_
  refine lv_istore_n (lv' := [(3, .int (0 : Int32)), (2, .int o2.1), (0, .ref (ad 68)), (1, .int x1)]) hx hb d12_isLoop_7 rfl hl (by decide) rfl (fun ls hl => ?_)
  refine lv_iconst (v := (0 : Int32)) hx hb d12_isLoop_8 (by decide) ?_
  refine lv_istore (lv' := [(4, .int (0 : Int32)), (3, .int (0 : Int32)), (2, .int o2.1), (0, .ref (ad 68)), (1, .int x1)]) hx hb d12_isLoop_9 hl (by decide) rfl (fun ls hl => ?_)
  refine l12_isLoop_11 C F x1 o2.1  r _ (fun y11_3 h_11 H locs ls hH hl e => ?_) F (0 : Int32) (0 : Int32) o2.2 _ _ _ hH (lv_sub hl [3, 4, 2, 1, 0] rfl) (ce_as e)
  try dsimp only at e
  refine lv_iload_n hx hb d12_isLoop_59 rfl (lv_at hl 1 rfl) ?_
  refine lv_iconst (v := (2 : Int32)) hx hb d12_isLoop_60 (by decide) ?_
  refine lv_idiv hx hb d12_isLoop_61 (by decide) ?_
  refine lv_iload_n hx hb d12_isLoop_62 rfl (lv_at hl 0 rfl) ?_
  refine lv_icmp_lt (tgt := 70) hx hb d12_isLoop_63 (by decide) (fun hc63 => ?_) (fun hc63 => ?_)
  · have e := ce_if1 e hc63
    refine lv_iconst (v := (0 : Int32)) hx hb d12_isLoop_70 (by decide) ?_
    exact ce_zretE C (ce_sok aK aV B0) hH (Or.inl rfl) e d12_isLoop_71
  · have e := ce_if0 e hc63
    refine lv_iconst (v := (1 : Int32)) hx hb d12_isLoop_66 (by decide) ?_
    refine lv_goto (tgt := 71) hx hb d12_isLoop_67 (by decide) ?_
    exact ce_zretE C (ce_sok aK aV B0) hH (Or.inr rfl) e d12_isLoop_71
abbrev b12_cablesOf : ByteArray := prog_14_method_34_code
def y12_cablesOf : MethodName := ⟨cn_12, "cablesOf", "()I"⟩
theorem d12_cablesOf_0 : decode b12_cablesOf 0 = .ok (.iconst 0, 1) := by decide +kernel
theorem d12_cablesOf_1 : decode b12_cablesOf 1 = .ok (.istore_n 1, 1) := by decide +kernel
theorem d12_cablesOf_2 : decode b12_cablesOf 2 = .ok (.iconst 0, 1) := by decide +kernel
theorem d12_cablesOf_3 : decode b12_cablesOf 3 = .ok (.istore_n 2, 1) := by decide +kernel
theorem d12_cablesOf_4 : decode b12_cablesOf 4 = .ok (.iload_n 2, 1) := by decide +kernel
theorem d12_cablesOf_5 : decode b12_cablesOf 5 = .ok (.bipush 40, 2) := by decide +kernel
theorem d12_cablesOf_7 : decode b12_cablesOf 7 = .ok (.if_icmp .ge 25, 3) := by decide +kernel
theorem d12_cablesOf_10 : decode b12_cablesOf 10 = .ok (.iload_n 1, 1) := by decide +kernel
theorem d12_cablesOf_11 : decode b12_cablesOf 11 = .ok (.aload_n 0, 1) := by decide +kernel
theorem d12_cablesOf_12 : decode b12_cablesOf 12 = .ok (.iload_n 2, 1) := by decide +kernel
theorem d12_cablesOf_13 : decode b12_cablesOf 13 = .ok (.invokevirtual 224, 3) := by decide +kernel
theorem d12_cablesOf_16 : decode b12_cablesOf 16 = .ok (.ifCond .lt 7, 3) := by decide +kernel
theorem d12_cablesOf_19 : decode b12_cablesOf 19 = .ok (.iconst 1, 1) := by decide +kernel
theorem d12_cablesOf_20 : decode b12_cablesOf 20 = .ok (.goto 4, 3) := by decide +kernel
theorem d12_cablesOf_23 : decode b12_cablesOf 23 = .ok (.iconst 0, 1) := by decide +kernel
theorem d12_cablesOf_24 : decode b12_cablesOf 24 = .ok (.iadd, 1) := by decide +kernel
theorem d12_cablesOf_25 : decode b12_cablesOf 25 = .ok (.istore_n 1, 1) := by decide +kernel
theorem d12_cablesOf_26 : decode b12_cablesOf 26 = .ok (.iinc 2 1, 3) := by decide +kernel
theorem d12_cablesOf_29 : decode b12_cablesOf 29 = .ok (.goto (-25), 3) := by decide +kernel
theorem d12_cablesOf_32 : decode b12_cablesOf 32 = .ok (.iload_n 1, 1) := by decide +kernel
theorem d12_cablesOf_33 : decode b12_cablesOf 33 = .ok (.iconst 2, 1) := by decide +kernel
theorem d12_cablesOf_34 : decode b12_cablesOf 34 = .ok (.idiv, 1) := by decide +kernel
theorem d12_cablesOf_35 : decode b12_cablesOf 35 = .ok (.ireturn, 1) := by decide +kernel
def f12_cablesOf_b4 (F : Nat) (x1 : Int32) (x2 : Int32) (h : Hp) : Option ((Int32 × Int32 × Hp) ⊕ (Int32 × Hp)) :=
  if (40 : Int32) ≤ x2 then
    some (.inr (x1, h))
  else
    Option.bind (f12_otherOf F x2 h) (fun o13 =>
      if o13.1 < 0 then
        some (.inl (x1 + (0 : Int32), x2 + (1 : Int32), o13.2))
      else
        some (.inl (x1 + (1 : Int32), x2 + (1 : Int32), o13.2)))
set_option maxRecDepth 20000 in
theorem l12_cablesOf_4 (C : ce_Cx p s m args c meth b12_cablesOf 3 (some .int) cn_12 D ad cA B0 (ce_St aK aV B0)) (F : Nat)   (r : Int32 × Hp) (g : (Int32 × Hp) → Option (Int32 × Hp)) (hx : ∀ (x1 : Int32) (h : Hp) (H : Heap) (locs : List Loc) (ls : Array Slot), ce_H D ad cA B0 [] s h H locs → lv_has ls 3 [(1, .int x1)] → g (x1, h) = some r → W p l e0 { frames := 1, cells := 0, slots := 0, locals := 21 } s m args below meth c H locs 0 0 (MQ below (ce_Q D ad cA B0 (ce_St aK aV B0) (some (.int r.1)) r.2) args s 0 0 (fun q => B0 ≤ q)) (F0 m 32 ls [])) : ∀ (n : Nat) (x1 : Int32) (x2 : Int32) (h : Hp) (H : Heap) (locs : List Loc) (ls : Array Slot), ce_H D ad cA B0 [] s h H locs → lv_has ls 3 [(0, .ref (ad 68)), (1, .int x1), (2, .int x2)] → Option.bind (ce_it (fun (st : Int32 × Int32 × Hp) => f12_cablesOf_b4 F  st.1 st.2.1 st.2.2) n (x1, x2, h)) g = some r → W p l e0 { frames := 1, cells := 0, slots := 0, locals := 21 } s m args below meth c H locs 0 0 (MQ below (ce_Q D ad cA B0 (ce_St aK aV B0) (some (.int r.1)) r.2) args s 0 0 (fun q => B0 ≤ q)) (F0 m 4 ls []) := by
  intro n
  induction n with
  | zero =>
    intro x1 x2 h H locs ls hH hl e
    exact absurd e (fun z => by cases z)
  | succ n ih =>
    intro x1 x2 h H locs ls hH hl e
    have hx9 := C.1
    have hb := C.2.1
    have e : Option.bind (f12_cablesOf_b4 F  x1 x2 h) _ = some r := ce_it_bd e
    unfold f12_cablesOf_b4 at e
    refine lv_iload_n hx9 hb d12_cablesOf_4 rfl (lv_at hl 2 rfl) ?_
    refine lv_bipush (v := (40 : Int32)) hx9 hb d12_cablesOf_5 (by decide) ?_
    refine lv_icmp_ge (tgt := 32) hx9 hb d12_cablesOf_7 (by decide) (fun hc7 => ?_) (fun hc7 => ?_)
    · have e := ce_if1 e hc7
      exact hx x1 h _ _ _ hH (lv_sub hl [1] rfl) e
    · have e := ce_if0 e hc7
      refine lv_iload_n hx9 hb d12_cablesOf_10 rfl (lv_at hl 1 rfl) ?_
      refine lv_aload_n hx9 hb d12_cablesOf_11 rfl (lv_at hl 0 rfl) ?_
      refine lv_iload_n hx9 hb d12_cablesOf_12 rfl (lv_at hl 2 rfl) ?_
      obtain ⟨o13, eo13, e⟩ := ce_bd e
      refine ce_callV (As := [.int x2]) (rest := [.int x1]) C (ce_sok aK aV B0) hH (c12_otherOf l D ad cA aK aV B0 C.2.2.2.2.2.2.1 F x2  h o13 eo13) lo_68.1 lo_68.2.choose_spec rfl rfl mc12_otherOf ml_12_224 mi12_otherOf ms12_otherOf mI_12 (n := 1) (by decide) rfl ⟨Nat.le_of_ble_eq_true rfl, Nat.le_of_ble_eq_true rfl⟩ ⟨Nat.le_of_ble_eq_true rfl, Nat.le_of_ble_eq_true rfl⟩ hl.1 rfl (Nat.le_of_ble_eq_true rfl) d12_cablesOf_13 (fun H locs hH => ?_)
      refine W.eq (g2 := F0 m 16 ls [.int o13.1, .int x1]) rfl ?_
      refine lv_if_lt (tgt := 23) hx9 hb d12_cablesOf_16 (by decide) (fun hc16 => ?_) (fun hc16 => ?_)
      · have e := ce_if1 e hc16
        refine lv_iconst (v := (0 : Int32)) hx9 hb d12_cablesOf_23 (by decide) ?_
        refine lv_iadd hx9 hb d12_cablesOf_24 ?_
        refine lv_istore_n (lv' := [(1, .int (x1 + (0 : Int32))), (0, .ref (ad 68)), (2, .int x2)]) hx9 hb d12_cablesOf_25 rfl hl (by decide) rfl (fun ls hl => ?_)
        refine lv_iinc (v := x2 + (1 : Int32)) (lv' := [(2, .int (x2 + (1 : Int32))), (1, .int (x1 + (0 : Int32))), (0, .ref (ad 68))]) hx9 hb d12_cablesOf_26 hl (k := 2) rfl rfl (by decide) rfl (fun ls hl => ?_)
        refine lv_goto (tgt := 4) hx9 hb d12_cablesOf_29 (by decide) ?_
        exact ih (x1 + (0 : Int32)) (x2 + (1 : Int32)) o13.2 _ _ _ hH (lv_sub hl [2, 1, 0] rfl) e
      · have e := ce_if0 e hc16
        refine lv_iconst (v := (1 : Int32)) hx9 hb d12_cablesOf_19 (by decide) ?_
        refine lv_goto (tgt := 24) hx9 hb d12_cablesOf_20 (by decide) ?_
        refine lv_iadd hx9 hb d12_cablesOf_24 ?_
        refine lv_istore_n (lv' := [(1, .int (x1 + (1 : Int32))), (0, .ref (ad 68)), (2, .int x2)]) hx9 hb d12_cablesOf_25 rfl hl (by decide) rfl (fun ls hl => ?_)
        refine lv_iinc (v := x2 + (1 : Int32)) (lv' := [(2, .int (x2 + (1 : Int32))), (1, .int (x1 + (1 : Int32))), (0, .ref (ad 68))]) hx9 hb d12_cablesOf_26 hl (k := 2) rfl rfl (by decide) rfl (fun ls hl => ?_)
        refine lv_goto (tgt := 4) hx9 hb d12_cablesOf_29 (by decide) ?_
        exact ih (x1 + (1 : Int32)) (x2 + (1 : Int32)) o13.2 _ _ _ hH (lv_sub hl [2, 1, 0] rfl) e
def f12_cablesOf (F : Nat)  (h : Hp) : Option (Int32 × Hp) :=
  Option.bind (ce_it (fun (st : Int32 × Int32 × Hp) => f12_cablesOf_b4 F  st.1 st.2.1 st.2.2) F ((0 : Int32), (0 : Int32), h)) (fun o4 =>
    some (o4.1 / (2 : Int32), o4.2))
set_option maxRecDepth 20000 in
theorem c12_cablesOf (l : Launch) (D : va_G) (ad : Nat → Nat) (cA : Nat → ClassId) (aK aV : Nat → Nat) (B0 : Nat) (hA : ce_Ad ad B0) (F : Nat)   (h : Hp) (r : Int32 × Hp) (e : f12_cablesOf F  h = some r) : ce_Ct l D ad cA B0 (ce_St aK aV B0) y12_cablesOf b12_cablesOf 3 (some .int) 1 21 0 0 [.ref (ad 68)] h (some (.int r.1)) r.2 := by
  refine ce_enter hA (by decide) rfl (Nat.le_of_ble_eq_true rfl) (fun p e0 s m below meth c ls C hH hl => ?_)
  have hl : lv_has ls 3 [(0, .ref (ad 68))] := hl
  have hx := C.1
  have hb := C.2.1
  have e : Option.bind _ some = some r := (congrArg (fun z => Option.bind z some) e).trans rfl
  unfold f12_cablesOf at e
  refine lv_iconst (v := (0 : Int32)) hx hb d12_cablesOf_0 (by decide) ?_
  refine lv_istore_n (lv' := [(1, .int (0 : Int32)), (0, .ref (ad 68))]) hx hb d12_cablesOf_1 rfl hl (by decide) rfl (fun ls hl => ?_)
  refine lv_iconst (v := (0 : Int32)) hx hb d12_cablesOf_2 (by decide) ?_
  refine lv_istore_n (lv' := [(2, .int (0 : Int32)), (1, .int (0 : Int32)), (0, .ref (ad 68))]) hx hb d12_cablesOf_3 rfl hl (by decide) rfl (fun ls hl => ?_)
  refine l12_cablesOf_4 C F   r _ (fun y4_1 h_4 H locs ls hH hl e => ?_) F (0 : Int32) (0 : Int32) h _ _ _ hH (lv_sub hl [2, 1, 0] rfl) (ce_as e)
  try dsimp only at e
  refine lv_iload_n hx hb d12_cablesOf_32 rfl (lv_at hl 0 rfl) ?_
  refine lv_iconst (v := (2 : Int32)) hx hb d12_cablesOf_33 (by decide) ?_
  refine lv_idiv hx hb d12_cablesOf_34 (by decide) ?_
  exact ce_iretE C (ce_sok aK aV B0) hH e d12_cablesOf_35
end C13
