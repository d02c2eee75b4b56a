-- C10: functions and contracts, written by wip/whole/gen (mgen.py, walk.py, walk2.py) out of the bytecode
section C10
variable {p : Program} {l : Launch} {e0 : Env} {R : Room} {s : State} {m : MethodId} {args : Array Value} {below : List Frame} {meth : Method} {c : Code} {H : Heap} {locs : List Loc} {cells slots : Nat} {Q : State → Prop}
variable {cc : ByteArray} {pc nL : Nat} {ret : Option FieldType} {ls : Array Slot} {rest : List Value} {D : va_G} {ad : Nat → Nat} {cA : Nat → ClassId} {B0 : Nat} {X : va_W} {h : Hp} {aK aV : Nat → Nat}
abbrev b11_rootBy : ByteArray := prog_1_method_32_code
def y11_rootBy : MethodName := ⟨cn_11, "rootBy", "(I)I"⟩
theorem d11_rootBy_0 : decode b11_rootBy 0 = .ok (.aload_n 0, 1) := by decide +kernel
theorem d11_rootBy_1 : decode b11_rootBy 1 = .ok (.iload_n 1, 1) := by decide +kernel
theorem d11_rootBy_2 : decode b11_rootBy 2 = .ok (.invokevirtual 169, 3) := by decide +kernel
theorem d11_rootBy_5 : decode b11_rootBy 5 = .ok (.istore_n 2, 1) := by decide +kernel
theorem d11_rootBy_6 : decode b11_rootBy 6 = .ok (.iload_n 2, 1) := by decide +kernel
theorem d11_rootBy_7 : decode b11_rootBy 7 = .ok (.ifCond .eq 5, 3) := by decide +kernel
theorem d11_rootBy_10 : decode b11_rootBy 10 = .ok (.iload_n 2, 1) := by decide +kernel
theorem d11_rootBy_11 : decode b11_rootBy 11 = .ok (.ireturn, 1) := by decide +kernel
theorem d11_rootBy_12 : decode b11_rootBy 12 = .ok (.aload_n 0, 1) := by decide +kernel
theorem d11_rootBy_13 : decode b11_rootBy 13 = .ok (.getfield 71, 3) := by decide +kernel
theorem d11_rootBy_16 : decode b11_rootBy 16 = .ok (.aload_n 0, 1) := by decide +kernel
theorem d11_rootBy_17 : decode b11_rootBy 17 = .ok (.getfield 26, 3) := by decide +kernel
theorem d11_rootBy_20 : decode b11_rootBy 20 = .ok (.iload_n 1, 1) := by decide +kernel
theorem d11_rootBy_21 : decode b11_rootBy 21 = .ok (.invokevirtual 281, 3) := by decide +kernel
theorem d11_rootBy_24 : decode b11_rootBy 24 = .ok (.aload_n 0, 1) := by decide +kernel
theorem d11_rootBy_25 : decode b11_rootBy 25 = .ok (.getfield 71, 3) := by decide +kernel
theorem d11_rootBy_28 : decode b11_rootBy 28 = .ok (.aload_n 0, 1) := by decide +kernel
theorem d11_rootBy_29 : decode b11_rootBy 29 = .ok (.getfield 60, 3) := by decide +kernel
theorem d11_rootBy_32 : decode b11_rootBy 32 = .ok (.iload_n 1, 1) := by decide +kernel
theorem d11_rootBy_33 : decode b11_rootBy 33 = .ok (.invokevirtual 172, 3) := by decide +kernel
theorem d11_rootBy_36 : decode b11_rootBy 36 = .ok (.ireturn, 1) := by decide +kernel
theorem fl_11_71 : Cond.fieldLink cn_11 71 (ft_11 10).1 (ft_11 10).2.1 (ft_11 10).2.2.1 ∈ ce_cm := ce_cm_of (List.mem_of_getElem? (i := 447) (by decide +kernel)) (by decide +kernel)
theorem gf_11_71 (C : ce_Cx p s m args c meth cc nL ret cn_11 D ad cA B0 (ce_St aK aV B0)) (hH : ce_H D ad cA B0 X s h H locs) (hdg : decode cc pc = .ok (.getfield 71, 3)) (kk : W p l e0 R s m args below meth c H locs cells slots Q (F0 m (pc + 3) ls (.ref (ad 55) :: rest))) : W p l e0 R s m args below meth c H locs cells slots Q (F0 m pc ls (.ref (ad 0) :: rest)) := by
  exact ce_get C hH (k := 0) (ci := 11) (j := 10) (N := 13) (sj := some (some 55)) (by decide) rfl rfl fw_11 (by decide) fl_11_71 rfl hdg kk
def f11_rootBy (F : Nat) (x1 : Int32) (h : Hp) : Option (Int32 × Hp) :=
  Option.bind (f11_refusalOf F x1 h) (fun o2 =>
    if o2.1 = 0 then
      ce_nm ((o2.2 0 2).toNatClampNeg) (fun k_17 => if ce_isNet k_17 then
        Option.bind (f3_hold F 55 k_17 x1 o2.2) (fun o21 =>
          Option.bind (f3_rootIn F 55 x1 o21) (fun o33 =>
            some (o33.1, o33.2)))
      else none)
    else
      some (o2.1, o2.2))
set_option maxRecDepth 20000 in
theorem c11_rootBy (l : Launch) (D : va_G) (ad : Nat → Nat) (cA : Nat → ClassId) (aK aV : Nat → Nat) (B0 : Nat) (hA : ce_Ad ad B0) (F : Nat) (x1 : Int32)  (h : Hp) (r : Int32 × Hp) (e : f11_rootBy F x1 h = some r) : ce_Ct l D ad cA B0 (ce_St aK aV B0) y11_rootBy b11_rootBy 3 (some .int) 4 98 0 0 [.ref (ad 0), .int x1] h (some (.int r.1)) r.2 := by
  refine ce_enter hA (by decide) rfl (Nat.le_of_ble_eq_true rfl) (fun p e0 s m below meth c ls C hH hl => ?_)
  have hl : lv_has ls 3 [(0, .ref (ad 0)), (1, .int x1)] := hl
  have hx := C.1
  have hb := C.2.1
  have e : Option.bind _ some = some r := (congrArg (fun z => Option.bind z some) e).trans rfl
  unfold f11_rootBy at e
  refine lv_aload_n hx hb d11_rootBy_0 rfl (lv_at hl 0 rfl) ?_
  refine lv_iload_n hx hb d11_rootBy_1 rfl (lv_at hl 1 rfl) ?_
  obtain ⟨o2, eo2, e⟩ := ce_bd e
  refine ce_callV (As := [.int x1]) (rest := []) C (ce_sok aK aV B0) hH (c11_refusalOf l D ad cA aK aV B0 C.2.2.2.2.2.2.1 F x1  h o2 eo2) lo_0.1 lo_0.2.choose_spec rfl rfl mc11_refusalOf ml_11_169 mi11_refusalOf ms11_refusalOf mI_11 (n := 1) (by decide) rfl ⟨Nat.le_of_ble_eq_true rfl, Nat.le_of_ble_eq_true rfl⟩ ⟨Nat.le_of_ble_eq_true rfl, Nat.le_of_ble_eq_true rfl⟩ hl.1 rfl (Nat.le_of_ble_eq_true rfl) d11_rootBy_2 (fun H locs hH => ?_)
  refine W.eq (g2 := F0 m 5 ls [.int o2.1]) rfl ?_
  refine lv_istore_n (lv' := [(2, .int o2.1), (0, .ref (ad 0)), (1, .int x1)]) hx hb d11_rootBy_5 rfl hl (by decide) rfl (fun ls hl => ?_)
  refine lv_iload_n hx hb d11_rootBy_6 rfl (lv_at hl 0 rfl) ?_
  refine lv_if_eq (tgt := 12) hx hb d11_rootBy_7 (by decide) (fun hc7 => ?_) (fun hc7 => ?_)
  · have e := ce_if1 e hc7
    refine lv_aload_n hx hb d11_rootBy_12 rfl (lv_at hl 1 rfl) ?_
    refine gf_11_71 C hH d11_rootBy_13 ?_
    refine lv_aload_n hx hb d11_rootBy_16 rfl (lv_at hl 1 rfl) ?_
    refine gf_11_26 C hH d11_rootBy_17 ?_
    obtain ⟨k_17, ek_17, e⟩ := ce_nmE e
    obtain ⟨hk_17, e⟩ := ce_gd e
    rw [← ek_17]
    refine lv_iload_n hx hb d11_rootBy_20 rfl (lv_at hl 2 rfl) ?_
    obtain ⟨o21, eo21, e⟩ := ce_bd e
    refine ce_callV (As := [.ref (ad k_17), .int x1]) (rest := []) C (ce_sok aK aV B0) hH (c3_hold l D ad cA aK aV B0 C.2.2.2.2.2.2.1 F 55 k_17 x1 (Or.inr rfl) hk_17 o2.2 o21 eo21) (lk_El (Or.inr rfl)).1 (lk_El (Or.inr rfl)).2.choose_spec rfl rfl mc3_hold ml_11_281 mi3_hold ms3_hold mI_3 (n := 2) (by decide) rfl ⟨Nat.le_of_ble_eq_true rfl, Nat.le_of_ble_eq_true rfl⟩ ⟨Nat.le_of_ble_eq_true rfl, Nat.le_of_ble_eq_true rfl⟩ hl.1 rfl (Nat.le_of_ble_eq_true rfl) d11_rootBy_21 (fun H locs hH => ?_)
    refine W.eq (g2 := F0 m 24 ls []) rfl ?_
    refine lv_aload_n hx hb d11_rootBy_24 rfl (lv_at hl 1 rfl) ?_
    refine gf_11_71 C hH d11_rootBy_25 ?_
    refine lv_aload_n hx hb d11_rootBy_28 rfl (lv_at hl 1 rfl) ?_
    refine gf_11_60 C hH d11_rootBy_29 ?_
    refine lv_iload_n hx hb d11_rootBy_32 rfl (lv_at hl 2 rfl) ?_
    obtain ⟨o33, eo33, e⟩ := ce_bd e
    refine ce_callV (As := [.ref (ad 44), .int x1]) (rest := []) C (ce_sok aK aV B0) hH (c3_rootIn l D ad cA aK aV B0 C.2.2.2.2.2.2.1 F 55 x1 (Or.inr rfl) o21 o33 eo33) (lk_El (Or.inr rfl)).1 (lk_El (Or.inr rfl)).2.choose_spec rfl rfl mc3_rootIn ml_11_172 mi3_rootIn ms3_rootIn mI_3 (n := 2) (by decide) rfl ⟨Nat.le_of_ble_eq_true rfl, Nat.le_of_ble_eq_true rfl⟩ ⟨Nat.le_of_ble_eq_true rfl, Nat.le_of_ble_eq_true rfl⟩ hl.1 rfl (Nat.le_of_ble_eq_true rfl) d11_rootBy_33 (fun H locs hH => ?_)
    refine W.eq (g2 := F0 m 36 ls [.int o33.1]) rfl ?_
    exact ce_iretE C (ce_sok aK aV B0) hH e d11_rootBy_36
  · have e := ce_if0 e hc7
    refine lv_iload_n hx hb d11_rootBy_10 rfl (lv_at hl 0 rfl) ?_
    exact ce_iretE C (ce_sok aK aV B0) hH e d11_rootBy_11
abbrev b11_cutting : ByteArray := prog_1_method_33_code
def y11_cutting : MethodName := ⟨cn_11, "cutting", "(II)I"⟩
theorem d11_cutting_0 : decode b11_cutting 0 = .ok (.aload_n 0, 1) := by decide +kernel
theorem d11_cutting_1 : decode b11_cutting 1 = .ok (.getfield 26, 3) := by decide +kernel
theorem d11_cutting_4 : decode b11_cutting 4 = .ok (.iload_n 1, 1) := by decide +kernel
theorem d11_cutting_5 : decode b11_cutting 5 = .ok (.iload_n 2, 1) := by decide +kernel
theorem d11_cutting_6 : decode b11_cutting 6 = .ok (.invokevirtual 143, 3) := by decide +kernel
theorem d11_cutting_9 : decode b11_cutting 9 = .ok (.ifCond .eq 18, 3) := by decide +kernel
theorem d11_cutting_12 : decode b11_cutting 12 = .ok (.aload_n 0, 1) := by decide +kernel
theorem d11_cutting_13 : decode b11_cutting 13 = .ok (.getfield 26, 3) := by decide +kernel
theorem d11_cutting_16 : decode b11_cutting 16 = .ok (.iload_n 1, 1) := by decide +kernel
theorem d11_cutting_17 : decode b11_cutting 17 = .ok (.iload_n 2, 1) := by decide +kernel
theorem d11_cutting_18 : decode b11_cutting 18 = .ok (.invokestatic 147, 3) := by decide +kernel
theorem d11_cutting_21 : decode b11_cutting 21 = .ok (.invokevirtual 285, 3) := by decide +kernel
theorem d11_cutting_24 : decode b11_cutting 24 = .ok (.ifCond .ne 6, 3) := by decide +kernel
theorem d11_cutting_27 : decode b11_cutting 27 = .ok (.bipush (-2), 2) := by decide +kernel
theorem d11_cutting_29 : decode b11_cutting 29 = .ok (.ireturn, 1) := by decide +kernel
theorem d11_cutting_30 : decode b11_cutting 30 = .ok (.aload_n 0, 1) := by decide +kernel
theorem d11_cutting_31 : decode b11_cutting 31 = .ok (.getfield 53, 3) := by decide +kernel
theorem d11_cutting_34 : decode b11_cutting 34 = .ok (.aload_n 0, 1) := by decide +kernel
theorem d11_cutting_35 : decode b11_cutting 35 = .ok (.getfield 26, 3) := by decide +kernel
theorem d11_cutting_38 : decode b11_cutting 38 = .ok (.iload_n 1, 1) := by decide +kernel
theorem d11_cutting_39 : decode b11_cutting 39 = .ok (.iload_n 1, 1) := by decide +kernel
theorem d11_cutting_40 : decode b11_cutting 40 = .ok (.iload_n 2, 1) := by decide +kernel
theorem d11_cutting_41 : decode b11_cutting 41 = .ok (.invokestatic 147, 3) := by decide +kernel
theorem d11_cutting_44 : decode b11_cutting 44 = .ok (.invokevirtual 212, 3) := by decide +kernel
theorem d11_cutting_47 : decode b11_cutting 47 = .ok (.aload_n 0, 1) := by decide +kernel
theorem d11_cutting_48 : decode b11_cutting 48 = .ok (.getfield 53, 3) := by decide +kernel
theorem d11_cutting_51 : decode b11_cutting 51 = .ok (.getfield 288, 3) := by decide +kernel
theorem d11_cutting_54 : decode b11_cutting 54 = .ok (.ireturn, 1) := by decide +kernel
theorem fl_11_288 : Cond.fieldLink cn_11 288 (ft_10 0).1 (ft_10 0).2.1 (ft_10 0).2.2.1 ∈ ce_cm := ce_cm_of (List.mem_of_getElem? (i := 333) (by decide +kernel)) (by decide +kernel)
theorem gf_11_288 (C : ce_Cx p s m args c meth cc nL ret cn_11 D ad cA B0 (ce_St aK aV B0)) (hH : ce_H D ad cA B0 X s h H locs) (hdg : decode cc pc = .ok (.getfield 288, 3)) (kk : W p l e0 R s m args below meth c H locs cells slots Q (F0 m (pc + 3) ls (.int (h 40 0) :: rest))) : W p l e0 R s m args below meth c H locs cells slots Q (F0 m pc ls (.ref (ad 40) :: rest)) := by
  exact ce_get C hH (k := 40) (ci := 10) (j := 0) (N := 4) (sj := none) (by decide) rfl rfl fw_10 (by decide) fl_11_288 rfl hdg kk
theorem pf_11_288 (C : ce_Cx p s m args c meth cc nL ret cn_11 D ad cA B0 (ce_St aK aV B0)) (hH : ce_H D ad cA B0 X s h H locs) {x : Int32} (hdg : decode cc pc = .ok (.putfield 288, 3)) (kk : ∀ (H1 : Heap) (locs1 : List Loc), ce_H D ad cA B0 X s (hp_up h 40 0 x) H1 locs1 → W p l e0 R s m args below meth c H1 locs1 cells slots Q (F0 m (pc + 3) ls rest)) : W p l e0 R s m args below meth c H locs cells slots Q (F0 m pc ls (.int x :: .ref (ad 40) :: rest)) := by
  exact ce_put C hH (k := 40) (ci := 10) (j := 0) (N := 4) (fy := fy_10) (sj := none) x (by decide) rfl rfl fw_10 fo_10 fn_10 (by decide) fl_11_288 rfl rfl (v := .int x) (by simp [ce_slot, upd]) rfl rfl hdg kk
theorem ml_11_285 : Cond.methodLink cn_11 285 y5_isCabled ∈ ce_cm := ce_cm_of (List.mem_of_getElem? (i := 1058) (by decide +kernel)) (by decide +kernel)
def f11_cutting (F : Nat) (x1 : Int32) (x2 : Int32) (h : Hp) : Option (Int32 × Hp) :=
  ce_nm ((h 0 2).toNatClampNeg) (fun k_1 => if ce_isNet k_1 then
    Option.bind (f5_hasPort F k_1 x1 x2 h) (fun o6 =>
      if o6.1 = 0 then
        some ((-2 : Int32), o6.2)
      else
        ce_nm ((o6.2 0 2).toNatClampNeg) (fun k_13 => if ce_isNet k_13 then
          Option.bind (f11_endOf F x1 x2 o6.2) (fun o18 =>
            Option.bind (f5_isCabled F k_13 o18.1 o18.2) (fun o21 =>
              if o21.1 = 0 then
                some ((-2 : Int32), o21.2)
              else
                ce_nm ((o21.2 0 2).toNatClampNeg) (fun k_35 => if ce_isNet k_35 then
                  Option.bind (f11_endOf F x1 x2 o21.2) (fun o41 =>
                    Option.bind (f10_start F k_35 x1 o41.1 o41.2) (fun o44 =>
                      some (o44 40 0, o44)))
                else none)))
        else none))
  else none)
set_option maxRecDepth 20000 in
theorem c11_cutting (l : Launch) (D : va_G) (ad : Nat → Nat) (cA : Nat → ClassId) (aK aV : Nat → Nat) (B0 : Nat) (hA : ce_Ad ad B0) (F : Nat) (x1 : Int32) (x2 : Int32)  (h : Hp) (r : Int32 × Hp) (e : f11_cutting F x1 x2 h = some r) : ce_Ct l D ad cA B0 (ce_St aK aV B0) y11_cutting b11_cutting 3 (some .int) 3 73 0 0 [.ref (ad 0), .int x1, .int x2] h (some (.int r.1)) r.2 := by
  refine ce_enter hA (by decide) rfl (Nat.le_of_ble_eq_true rfl) (fun p e0 s m below meth c ls C hH hl => ?_)
  have hl : lv_has ls 3 [(0, .ref (ad 0)), (1, .int x1), (2, .int x2)] := hl
  have hx := C.1
  have hb := C.2.1
  have e : Option.bind _ some = some r := (congrArg (fun z => Option.bind z some) e).trans rfl
  unfold f11_cutting at e
  refine lv_aload_n hx hb d11_cutting_0 rfl (lv_at hl 0 rfl) ?_
  refine gf_11_26 C hH d11_cutting_1 ?_
  obtain ⟨k_1, ek_1, e⟩ := ce_nmE e
  obtain ⟨hk_1, e⟩ := ce_gd e
  rw [← ek_1]
  refine lv_iload_n hx hb d11_cutting_4 rfl (lv_at hl 1 rfl) ?_
  refine lv_iload_n hx hb d11_cutting_5 rfl (lv_at hl 2 rfl) ?_
  obtain ⟨o6, eo6, e⟩ := ce_bd e
  refine ce_callV (As := [.int x1, .int x2]) (rest := []) C (ce_sok aK aV B0) hH (c5_hasPort l D ad cA aK aV B0 C.2.2.2.2.2.2.1 F k_1 x1 x2 hk_1 h o6 eo6) (lk_Net hk_1).1 (lk_Net hk_1).2.choose_spec rfl rfl mc5_hasPort ml_11_143 mi5_hasPort ms5_hasPort mI_5 (n := 2) (by decide) rfl ⟨Nat.le_of_ble_eq_true rfl, Nat.le_of_ble_eq_true rfl⟩ ⟨Nat.le_of_ble_eq_true rfl, Nat.le_of_ble_eq_true rfl⟩ hl.1 rfl (Nat.le_of_ble_eq_true rfl) d11_cutting_6 (fun H locs hH => ?_)
  refine W.eq (g2 := F0 m 9 ls [.int o6.1]) rfl ?_
  refine lv_if_eq (tgt := 27) hx hb d11_cutting_9 (by decide) (fun hc9 => ?_) (fun hc9 => ?_)
  · have e := ce_if1 e hc9
    refine lv_bipush (v := (-2 : Int32)) hx hb d11_cutting_27 (by decide) ?_
    exact ce_iretE C (ce_sok aK aV B0) hH e d11_cutting_29
  · have e := ce_if0 e hc9
    refine lv_aload_n hx hb d11_cutting_12 rfl (lv_at hl 0 rfl) ?_
    refine gf_11_26 C hH d11_cutting_13 ?_
    obtain ⟨k_13, ek_13, e⟩ := ce_nmE e
    obtain ⟨hk_13, e⟩ := ce_gd e
    rw [← ek_13]
    refine lv_iload_n hx hb d11_cutting_16 rfl (lv_at hl 1 rfl) ?_
    refine lv_iload_n hx hb d11_cutting_17 rfl (lv_at hl 2 rfl) ?_
    obtain ⟨o18, eo18, e⟩ := ce_bd e
    refine ce_callS (As := [.int x1, .int x2]) (rest := [.ref (ad k_13)]) C (ce_sok aK aV B0) hH (c11_endOf l D ad cA aK aV B0 C.2.2.2.2.2.2.1 F x1 x2  o6.2 o18 eo18) mc11_endOf ml_11_147 mt11_endOf mI_11 (n := 2) (by decide) rfl ⟨Nat.le_of_ble_eq_true rfl, Nat.le_of_ble_eq_true rfl⟩ ⟨Nat.le_of_ble_eq_true rfl, Nat.le_of_ble_eq_true rfl⟩ hl.1 rfl (Nat.le_of_ble_eq_true rfl) d11_cutting_18 (fun H locs hH => ?_)
    refine W.eq (g2 := F0 m 21 ls [.int o18.1, .ref (ad k_13)]) rfl ?_
    obtain ⟨o21, eo21, e⟩ := ce_bd e
    refine ce_callV (As := [.int o18.1]) (rest := []) C (ce_sok aK aV B0) hH (c5_isCabled l D ad cA aK aV B0 C.2.2.2.2.2.2.1 F k_13 o18.1 hk_13 o18.2 o21 eo21) (lk_Net hk_13).1 (lk_Net hk_13).2.choose_spec rfl rfl mc5_isCabled ml_11_285 mi5_isCabled ms5_isCabled mI_5 (n := 1) (by decide) rfl ⟨Nat.le_of_ble_eq_true rfl, Nat.le_of_ble_eq_true rfl⟩ ⟨Nat.le_of_ble_eq_true rfl, Nat.le_of_ble_eq_true rfl⟩ hl.1 rfl (Nat.le_of_ble_eq_true rfl) d11_cutting_21 (fun H locs hH => ?_)
    refine W.eq (g2 := F0 m 24 ls [.int o21.1]) rfl ?_
    refine lv_if_ne (tgt := 30) hx hb d11_cutting_24 (by decide) (fun hc24 => ?_) (fun hc24 => ?_)
    · have e := ce_if0 e hc24
      refine lv_aload_n hx hb d11_cutting_30 rfl (lv_at hl 0 rfl) ?_
      refine gf_11_53 C hH d11_cutting_31 ?_
      refine lv_aload_n hx hb d11_cutting_34 rfl (lv_at hl 0 rfl) ?_
      refine gf_11_26 C hH d11_cutting_35 ?_
      obtain ⟨k_35, ek_35, e⟩ := ce_nmE e
      obtain ⟨hk_35, e⟩ := ce_gd e
      rw [← ek_35]
      refine lv_iload_n hx hb d11_cutting_38 rfl (lv_at hl 1 rfl) ?_
      refine lv_iload_n hx hb d11_cutting_39 rfl (lv_at hl 1 rfl) ?_
      refine lv_iload_n hx hb d11_cutting_40 rfl (lv_at hl 2 rfl) ?_
      obtain ⟨o41, eo41, e⟩ := ce_bd e
      refine ce_callS (As := [.int x1, .int x2]) (rest := [.int x1, .ref (ad k_35), .ref (ad 40)]) C (ce_sok aK aV B0) hH (c11_endOf l D ad cA aK aV B0 C.2.2.2.2.2.2.1 F x1 x2  o21.2 o41 eo41) mc11_endOf ml_11_147 mt11_endOf mI_11 (n := 2) (by decide) rfl ⟨Nat.le_of_ble_eq_true rfl, Nat.le_of_ble_eq_true rfl⟩ ⟨Nat.le_of_ble_eq_true rfl, Nat.le_of_ble_eq_true rfl⟩ hl.1 rfl (Nat.le_of_ble_eq_true rfl) d11_cutting_41 (fun H locs hH => ?_)
      refine W.eq (g2 := F0 m 44 ls [.int o41.1, .int x1, .ref (ad k_35), .ref (ad 40)]) rfl ?_
      obtain ⟨o44, eo44, e⟩ := ce_bd e
      refine ce_callV (As := [.ref (ad k_35), .int x1, .int o41.1]) (rest := []) C (ce_sok aK aV B0) hH (c10_start l D ad cA aK aV B0 C.2.2.2.2.2.2.1 F k_35 x1 o41.1 hk_35 o41.2 o44 eo44) lo_40.1 lo_40.2.choose_spec rfl rfl mc10_start ml_11_212 mi10_start ms10_start mI_10 (n := 3) (by decide) rfl ⟨Nat.le_of_ble_eq_true rfl, Nat.le_of_ble_eq_true rfl⟩ ⟨Nat.le_of_ble_eq_true rfl, Nat.le_of_ble_eq_true rfl⟩ hl.1 rfl (Nat.le_of_ble_eq_true rfl) d11_cutting_44 (fun H locs hH => ?_)
      refine W.eq (g2 := F0 m 47 ls []) rfl ?_
      refine lv_aload_n hx hb d11_cutting_47 rfl (lv_at hl 0 rfl) ?_
      refine gf_11_53 C hH d11_cutting_48 ?_
      refine gf_11_288 C hH d11_cutting_51 ?_
      exact ce_iretE C (ce_sok aK aV B0) hH e d11_cutting_54
    · have e := ce_if1 e hc24
      refine lv_bipush (v := (-2 : Int32)) hx hb d11_cutting_27 (by decide) ?_
      exact ce_iretE C (ce_sok aK aV B0) hH e d11_cutting_29
abbrev b11_bridges : ByteArray := prog_1_method_34_code
def y11_bridges : MethodName := ⟨cn_11, "bridges", "()I"⟩
theorem d11_bridges_0 : decode b11_bridges 0 = .ok (.aload_n 0, 1) := by decide +kernel
theorem d11_bridges_1 : decode b11_bridges 1 = .ok (.getfield 26, 3) := by decide +kernel
theorem d11_bridges_4 : decode b11_bridges 4 = .ok (.getfield 116, 3) := by decide +kernel
theorem d11_bridges_7 : decode b11_bridges 7 = .ok (.ifCond .ne 6, 3) := by decide +kernel
theorem d11_bridges_10 : decode b11_bridges 10 = .ok (.bipush (-2), 2) := by decide +kernel
theorem d11_bridges_12 : decode b11_bridges 12 = .ok (.ireturn, 1) := by decide +kernel
theorem d11_bridges_13 : decode b11_bridges 13 = .ok (.iconst 0, 1) := by decide +kernel
theorem d11_bridges_14 : decode b11_bridges 14 = .ok (.istore_n 1, 1) := by decide +kernel
theorem d11_bridges_15 : decode b11_bridges 15 = .ok (.iconst 0, 1) := by decide +kernel
theorem d11_bridges_16 : decode b11_bridges 16 = .ok (.istore_n 2, 1) := by decide +kernel
theorem d11_bridges_17 : decode b11_bridges 17 = .ok (.iload_n 2, 1) := by decide +kernel
theorem d11_bridges_18 : decode b11_bridges 18 = .ok (.bipush 40, 2) := by decide +kernel
theorem d11_bridges_20 : decode b11_bridges 20 = .ok (.if_icmp .ge 38, 3) := by decide +kernel
theorem d11_bridges_23 : decode b11_bridges 23 = .ok (.aload_n 0, 1) := by decide +kernel
theorem d11_bridges_24 : decode b11_bridges 24 = .ok (.getfield 26, 3) := by decide +kernel
theorem d11_bridges_27 : decode b11_bridges 27 = .ok (.iload_n 2, 1) := by decide +kernel
theorem d11_bridges_28 : decode b11_bridges 28 = .ok (.invokevirtual 291, 3) := by decide +kernel
theorem d11_bridges_31 : decode b11_bridges 31 = .ok (.ifCond .eq 21, 3) := by decide +kernel
theorem d11_bridges_34 : decode b11_bridges 34 = .ok (.aload_n 0, 1) := by decide +kernel
theorem d11_bridges_35 : decode b11_bridges 35 = .ok (.getfield 53, 3) := by decide +kernel
theorem d11_bridges_38 : decode b11_bridges 38 = .ok (.aload_n 0, 1) := by decide +kernel
theorem d11_bridges_39 : decode b11_bridges 39 = .ok (.getfield 26, 3) := by decide +kernel
theorem d11_bridges_42 : decode b11_bridges 42 = .ok (.iload_n 2, 1) := by decide +kernel
theorem d11_bridges_43 : decode b11_bridges 43 = .ok (.invokevirtual 294, 3) := by decide +kernel
theorem d11_bridges_46 : decode b11_bridges 46 = .ok (.ifCond .eq 6, 3) := by decide +kernel
theorem d11_bridges_49 : decode b11_bridges 49 = .ok (.iinc 1 1, 3) := by decide +kernel
theorem d11_bridges_52 : decode b11_bridges 52 = .ok (.iinc 2 1, 3) := by decide +kernel
theorem d11_bridges_55 : decode b11_bridges 55 = .ok (.goto (-38), 3) := by decide +kernel
theorem d11_bridges_58 : decode b11_bridges 58 = .ok (.iload_n 1, 1) := by decide +kernel
theorem d11_bridges_59 : decode b11_bridges 59 = .ok (.ireturn, 1) := by decide +kernel
theorem mc10_isBridge : Cond.code y10_isBridge b10_isBridge 3 (some .boolean) ∈ ce_cm := ce_cm_of (List.mem_of_getElem? (i := 1067) (by decide +kernel)) (by decide +kernel)
theorem ml_11_294 : Cond.methodLink cn_11 294 y10_isBridge ∈ ce_cm := ce_cm_of (List.mem_of_getElem? (i := 1064) (by decide +kernel)) (by decide +kernel)
theorem mi10_isBridge : Cond.instanceMethod y10_isBridge ∈ ce_cm := ce_cm_of (List.mem_of_getElem? (i := 1065) (by decide +kernel)) (by decide +kernel)
theorem ms10_isBridge : Cond.selects cn_10 y10_isBridge y10_isBridge ∈ ce_cm := ce_cm_of (List.mem_of_getElem? (i := 1066) (by decide +kernel)) (by decide +kernel)
theorem ml_11_291 : Cond.methodLink cn_11 291 y5_isLesserEnd ∈ ce_cm := ce_cm_of (List.mem_of_getElem? (i := 1063) (by decide +kernel)) (by decide +kernel)
def f11_bridges_b17 (F : Nat) (x1 : Int32) (x2 : Int32) (h : Hp) : Option ((Int32 × Int32 × Hp) ⊕ (Int32 × Hp)) :=
  if (40 : Int32) ≤ x2 then
    some (.inr (x1, h))
  else
    ce_nm ((h 0 2).toNatClampNeg) (fun k_24 => if ce_isNet k_24 then
      Option.bind (f5_isLesserEnd F k_24 x2 h) (fun o28 =>
        if o28.1 = 0 then
          some (.inl (x1, x2 + (1 : Int32), o28.2))
        else
          ce_nm ((o28.2 0 2).toNatClampNeg) (fun k_39 => if ce_isNet k_39 then
            Option.bind (f10_isBridge F k_39 x2 o28.2) (fun o43 =>
              if o43.1 = 0 then
                some (.inl (x1, x2 + (1 : Int32), o43.2))
              else
                some (.inl (x1 + (1 : Int32), x2 + (1 : Int32), o43.2)))
          else none))
    else none)
set_option maxRecDepth 20000 in
theorem l11_bridges_17 (C : ce_Cx p s m args c meth b11_bridges 3 (some .int) cn_11 D ad cA B0 (ce_St aK aV B0)) (F : Nat)   (r : Int32 × Hp) (g : (Int32 × Hp) → Option (Int32 × Hp)) (hx : ∀ (x1 : Int32) (h : Hp) (H : Heap) (locs : List Loc) (ls : Array Slot), ce_H D ad cA B0 [] s h H locs → lv_has ls 3 [(1, .int x1)] → g (x1, h) = some r → W p l e0 { frames := 4, cells := 0, slots := 0, locals := 95 } s m args below meth c H locs 0 0 (MQ below (ce_Q D ad cA B0 (ce_St aK aV B0) (some (.int r.1)) r.2) args s 0 0 (fun q => B0 ≤ q)) (F0 m 58 ls [])) : ∀ (n : Nat) (x1 : Int32) (x2 : Int32) (h : Hp) (H : Heap) (locs : List Loc) (ls : Array Slot), ce_H D ad cA B0 [] s h H locs → lv_has ls 3 [(0, .ref (ad 0)), (1, .int x1), (2, .int x2)] → Option.bind (ce_it (fun (st : Int32 × Int32 × Hp) => f11_bridges_b17 F  st.1 st.2.1 st.2.2) n (x1, x2, h)) g = some r → W p l e0 { frames := 4, cells := 0, slots := 0, locals := 95 } s m args below meth c H locs 0 0 (MQ below (ce_Q D ad cA B0 (ce_St aK aV B0) (some (.int r.1)) r.2) args s 0 0 (fun q => B0 ≤ q)) (F0 m 17 ls []) := by
  intro n
  induction n with
  | zero =>
    intro x1 x2 h H locs ls hH hl e
    exact absurd e (fun z => by cases z)
  | succ n ih =>
    intro x1 x2 h H locs ls hH hl e
    have hx9 := C.1
    have hb := C.2.1
    have e : Option.bind (f11_bridges_b17 F  x1 x2 h) _ = some r := ce_it_bd e
    unfold f11_bridges_b17 at e
    refine lv_iload_n hx9 hb d11_bridges_17 rfl (lv_at hl 2 rfl) ?_
    refine lv_bipush (v := (40 : Int32)) hx9 hb d11_bridges_18 (by decide) ?_
    refine lv_icmp_ge (tgt := 58) hx9 hb d11_bridges_20 (by decide) (fun hc20 => ?_) (fun hc20 => ?_)
    · have e := ce_if1 e hc20
      exact hx x1 h _ _ _ hH (lv_sub hl [1] rfl) e
    · have e := ce_if0 e hc20
      refine lv_aload_n hx9 hb d11_bridges_23 rfl (lv_at hl 0 rfl) ?_
      refine gf_11_26 C hH d11_bridges_24 ?_
      obtain ⟨k_24, ek_24, e⟩ := ce_nmE e
      obtain ⟨hk_24, e⟩ := ce_gd e
      rw [← ek_24]
      refine lv_iload_n hx9 hb d11_bridges_27 rfl (lv_at hl 2 rfl) ?_
      obtain ⟨o28, eo28, e⟩ := ce_bd e
      refine ce_callV (As := [.int x2]) (rest := []) C (ce_sok aK aV B0) hH (c5_isLesserEnd l D ad cA aK aV B0 C.2.2.2.2.2.2.1 F k_24 x2 hk_24 h o28 eo28) (lk_Net hk_24).1 (lk_Net hk_24).2.choose_spec rfl rfl mc5_isLesserEnd ml_11_291 mi5_isLesserEnd ms5_isLesserEnd mI_5 (n := 1) (by decide) rfl ⟨Nat.le_of_ble_eq_true rfl, Nat.le_of_ble_eq_true rfl⟩ ⟨Nat.le_of_ble_eq_true rfl, Nat.le_of_ble_eq_true rfl⟩ hl.1 rfl (Nat.le_of_ble_eq_true rfl) d11_bridges_28 (fun H locs hH => ?_)
      refine W.eq (g2 := F0 m 31 ls [.int o28.1]) rfl ?_
      refine lv_if_eq (tgt := 52) hx9 hb d11_bridges_31 (by decide) (fun hc31 => ?_) (fun hc31 => ?_)
      · have e := ce_if1 e hc31
        refine lv_iinc (v := x2 + (1 : Int32)) (lv' := [(2, .int (x2 + (1 : Int32))), (0, .ref (ad 0)), (1, .int x1)]) hx9 hb d11_bridges_52 hl (k := 2) rfl rfl (by decide) rfl (fun ls hl => ?_)
        refine lv_goto (tgt := 17) hx9 hb d11_bridges_55 (by decide) ?_
        exact ih x1 (x2 + (1 : Int32)) o28.2 _ _ _ hH (lv_sub hl [1, 2, 0] rfl) e
      · have e := ce_if0 e hc31
        refine lv_aload_n hx9 hb d11_bridges_34 rfl (lv_at hl 0 rfl) ?_
        refine gf_11_53 C hH d11_bridges_35 ?_
        refine lv_aload_n hx9 hb d11_bridges_38 rfl (lv_at hl 0 rfl) ?_
        refine gf_11_26 C hH d11_bridges_39 ?_
        obtain ⟨k_39, ek_39, e⟩ := ce_nmE e
        obtain ⟨hk_39, e⟩ := ce_gd e
        rw [← ek_39]
        refine lv_iload_n hx9 hb d11_bridges_42 rfl (lv_at hl 2 rfl) ?_
        obtain ⟨o43, eo43, e⟩ := ce_bd e
        refine ce_callV (As := [.ref (ad k_39), .int x2]) (rest := []) C (ce_sok aK aV B0) hH (c10_isBridge l D ad cA aK aV B0 C.2.2.2.2.2.2.1 F k_39 x2 hk_39 o28.2 o43 eo43) lo_40.1 lo_40.2.choose_spec rfl rfl mc10_isBridge ml_11_294 mi10_isBridge ms10_isBridge mI_10 (n := 2) (by decide) rfl ⟨Nat.le_of_ble_eq_true rfl, Nat.le_of_ble_eq_true rfl⟩ ⟨Nat.le_of_ble_eq_true rfl, Nat.le_of_ble_eq_true rfl⟩ hl.1 rfl (Nat.le_of_ble_eq_true rfl) d11_bridges_43 (fun H locs hH => ?_)
        refine W.eq (g2 := F0 m 46 ls [.int o43.1]) rfl ?_
        refine lv_if_eq (tgt := 52) hx9 hb d11_bridges_46 (by decide) (fun hc46 => ?_) (fun hc46 => ?_)
        · have e := ce_if1 e hc46
          refine lv_iinc (v := x2 + (1 : Int32)) (lv' := [(2, .int (x2 + (1 : Int32))), (0, .ref (ad 0)), (1, .int x1)]) hx9 hb d11_bridges_52 hl (k := 2) rfl rfl (by decide) rfl (fun ls hl => ?_)
          refine lv_goto (tgt := 17) hx9 hb d11_bridges_55 (by decide) ?_
          exact ih x1 (x2 + (1 : Int32)) o43.2 _ _ _ hH (lv_sub hl [1, 2, 0] rfl) e
        · have e := ce_if0 e hc46
          refine lv_iinc (v := x1 + (1 : Int32)) (lv' := [(1, .int (x1 + (1 : Int32))), (0, .ref (ad 0)), (2, .int x2)]) hx9 hb d11_bridges_49 hl (k := 1) rfl rfl (by decide) rfl (fun ls hl => ?_)
          refine lv_iinc (v := x2 + (1 : Int32)) (lv' := [(2, .int (x2 + (1 : Int32))), (1, .int (x1 + (1 : Int32))), (0, .ref (ad 0))]) hx9 hb d11_bridges_52 hl (k := 2) rfl rfl (by decide) rfl (fun ls hl => ?_)
          refine lv_goto (tgt := 17) hx9 hb d11_bridges_55 (by decide) ?_
          exact ih (x1 + (1 : Int32)) (x2 + (1 : Int32)) o43.2 _ _ _ hH (lv_sub hl [2, 1, 0] rfl) e
def f11_bridges (F : Nat)  (h : Hp) : Option (Int32 × Hp) :=
  ce_nm ((h 0 2).toNatClampNeg) (fun k_1 => if ce_isNet k_1 then
    if (h k_1 0) = 0 then
      some ((-2 : Int32), h)
    else
      Option.bind (ce_it (fun (st : Int32 × Int32 × Hp) => f11_bridges_b17 F  st.1 st.2.1 st.2.2) F ((0 : Int32), (0 : Int32), h)) (fun o17 =>
        some (o17.1, o17.2))
  else none)
set_option maxRecDepth 20000 in
theorem c11_bridges (l : Launch) (D : va_G) (ad : Nat → Nat) (cA : Nat → ClassId) (aK aV : Nat → Nat) (B0 : Nat) (hA : ce_Ad ad B0) (F : Nat)   (h : Hp) (r : Int32 × Hp) (e : f11_bridges F  h = some r) : ce_Ct l D ad cA B0 (ce_St aK aV B0) y11_bridges b11_bridges 3 (some .int) 4 95 0 0 [.ref (ad 0)] h (some (.int r.1)) r.2 := by
  refine ce_enter hA (by decide) rfl (Nat.le_of_ble_eq_true rfl) (fun p e0 s m below meth c ls C hH hl => ?_)
  have hl : lv_has ls 3 [(0, .ref (ad 0))] := hl
  have hx := C.1
  have hb := C.2.1
  have e : Option.bind _ some = some r := (congrArg (fun z => Option.bind z some) e).trans rfl
  unfold f11_bridges at e
  refine lv_aload_n hx hb d11_bridges_0 rfl (lv_at hl 0 rfl) ?_
  refine gf_11_26 C hH d11_bridges_1 ?_
  obtain ⟨k_1, ek_1, e⟩ := ce_nmE e
  obtain ⟨hk_1, e⟩ := ce_gd e
  rw [← ek_1]
  refine gf_11_116 C hH hk_1 d11_bridges_4 ?_
  refine lv_if_ne (tgt := 13) hx hb d11_bridges_7 (by decide) (fun hc7 => ?_) (fun hc7 => ?_)
  · have e := ce_if0 e hc7
    refine lv_iconst (v := (0 : Int32)) hx hb d11_bridges_13 (by decide) ?_
    refine lv_istore_n (lv' := [(1, .int (0 : Int32)), (0, .ref (ad 0))]) hx hb d11_bridges_14 rfl hl (by decide) rfl (fun ls hl => ?_)
    refine lv_iconst (v := (0 : Int32)) hx hb d11_bridges_15 (by decide) ?_
    refine lv_istore_n (lv' := [(2, .int (0 : Int32)), (1, .int (0 : Int32)), (0, .ref (ad 0))]) hx hb d11_bridges_16 rfl hl (by decide) rfl (fun ls hl => ?_)
    refine l11_bridges_17 C F   r _ (fun y17_1 h_17 H locs ls hH hl e => ?_) F (0 : Int32) (0 : Int32) h _ _ _ hH (lv_sub hl [2, 1, 0] rfl) (ce_as e)
    try dsimp only at e
    refine lv_iload_n hx hb d11_bridges_58 rfl (lv_at hl 0 rfl) ?_
    exact ce_iretE C (ce_sok aK aV B0) hH e d11_bridges_59
  · have e := ce_if1 e hc7
    refine lv_bipush (v := (-2 : Int32)) hx hb d11_bridges_10 (by decide) ?_
    exact ce_iretE C (ce_sok aK aV B0) hH e d11_bridges_12
abbrev b11_spare : ByteArray := prog_1_method_35_code
def y11_spare : MethodName := ⟨cn_11, "spare", "(I)I"⟩
theorem d11_spare_0 : decode b11_spare 0 = .ok (.aload_n 0, 1) := by decide +kernel
theorem d11_spare_1 : decode b11_spare 1 = .ok (.getfield 26, 3) := by decide +kernel
theorem d11_spare_4 : decode b11_spare 4 = .ok (.iload_n 1, 1) := by decide +kernel
theorem d11_spare_5 : decode b11_spare 5 = .ok (.invokevirtual 179, 3) := by decide +kernel
theorem d11_spare_8 : decode b11_spare 8 = .ok (.ifCond .ne 6, 3) := by decide +kernel
theorem d11_spare_11 : decode b11_spare 11 = .ok (.bipush (-2), 2) := by decide +kernel
theorem d11_spare_13 : decode b11_spare 13 = .ok (.ireturn, 1) := by decide +kernel
theorem d11_spare_14 : decode b11_spare 14 = .ok (.aload_n 0, 1) := by decide +kernel
theorem d11_spare_15 : decode b11_spare 15 = .ok (.getfield 60, 3) := by decide +kernel
theorem d11_spare_18 : decode b11_spare 18 = .ok (.iload_n 1, 1) := by decide +kernel
theorem d11_spare_19 : decode b11_spare 19 = .ok (.invokevirtual 298, 3) := by decide +kernel
theorem d11_spare_22 : decode b11_spare 22 = .ok (.aload_n 0, 1) := by decide +kernel
theorem d11_spare_23 : decode b11_spare 23 = .ok (.getfield 60, 3) := by decide +kernel
theorem d11_spare_26 : decode b11_spare 26 = .ok (.iload_n 1, 1) := by decide +kernel
theorem d11_spare_27 : decode b11_spare 27 = .ok (.invokevirtual 199, 3) := by decide +kernel
theorem d11_spare_30 : decode b11_spare 30 = .ok (.if_icmp .eq 5, 3) := by decide +kernel
theorem d11_spare_33 : decode b11_spare 33 = .ok (.iconst (-1), 1) := by decide +kernel
theorem d11_spare_34 : decode b11_spare 34 = .ok (.ireturn, 1) := by decide +kernel
theorem d11_spare_35 : decode b11_spare 35 = .ok (.iconst (-1), 1) := by decide +kernel
theorem d11_spare_36 : decode b11_spare 36 = .ok (.istore_n 2, 1) := by decide +kernel
theorem d11_spare_37 : decode b11_spare 37 = .ok (.ldc 228, 2) := by decide +kernel
theorem d11_spare_39 : decode b11_spare 39 = .ok (.istore_n 3, 1) := by decide +kernel
theorem d11_spare_40 : decode b11_spare 40 = .ok (.iconst 0, 1) := by decide +kernel
theorem d11_spare_41 : decode b11_spare 41 = .ok (.istore 4, 2) := by decide +kernel
theorem d11_spare_43 : decode b11_spare 43 = .ok (.iload 4, 2) := by decide +kernel
theorem d11_spare_45 : decode b11_spare 45 = .ok (.bipush 40, 2) := by decide +kernel
theorem d11_spare_47 : decode b11_spare 47 = .ok (.if_icmp .ge 77, 3) := by decide +kernel
theorem d11_spare_50 : decode b11_spare 50 = .ok (.aload_n 0, 1) := by decide +kernel
theorem d11_spare_51 : decode b11_spare 51 = .ok (.getfield 26, 3) := by decide +kernel
theorem d11_spare_54 : decode b11_spare 54 = .ok (.iload 4, 2) := by decide +kernel
theorem d11_spare_56 : decode b11_spare 56 = .ok (.invokevirtual 291, 3) := by decide +kernel
theorem d11_spare_59 : decode b11_spare 59 = .ok (.ifCond .eq 59, 3) := by decide +kernel
theorem d11_spare_62 : decode b11_spare 62 = .ok (.aload_n 0, 1) := by decide +kernel
theorem d11_spare_63 : decode b11_spare 63 = .ok (.getfield 60, 3) := by decide +kernel
theorem d11_spare_66 : decode b11_spare 66 = .ok (.iload_n 1, 1) := by decide +kernel
theorem d11_spare_67 : decode b11_spare 67 = .ok (.iload 4, 2) := by decide +kernel
theorem d11_spare_69 : decode b11_spare 69 = .ok (.invokestatic 159, 3) := by decide +kernel
theorem d11_spare_72 : decode b11_spare 72 = .ok (.invokevirtual 229, 3) := by decide +kernel
theorem d11_spare_75 : decode b11_spare 75 = .ok (.ifCond .eq 43, 3) := by decide +kernel
theorem d11_spare_78 : decode b11_spare 78 = .ok (.aload_n 0, 1) := by decide +kernel
theorem d11_spare_79 : decode b11_spare 79 = .ok (.getfield 53, 3) := by decide +kernel
theorem d11_spare_82 : decode b11_spare 82 = .ok (.aload_n 0, 1) := by decide +kernel
theorem d11_spare_83 : decode b11_spare 83 = .ok (.getfield 26, 3) := by decide +kernel
theorem d11_spare_86 : decode b11_spare 86 = .ok (.iload 4, 2) := by decide +kernel
theorem d11_spare_88 : decode b11_spare 88 = .ok (.invokevirtual 294, 3) := by decide +kernel
theorem d11_spare_91 : decode b11_spare 91 = .ok (.ifCond .ne 27, 3) := by decide +kernel
theorem d11_spare_94 : decode b11_spare 94 = .ok (.aload_n 0, 1) := by decide +kernel
theorem d11_spare_95 : decode b11_spare 95 = .ok (.iload_n 1, 1) := by decide +kernel
theorem d11_spare_96 : decode b11_spare 96 = .ok (.iload 4, 2) := by decide +kernel
theorem d11_spare_98 : decode b11_spare 98 = .ok (.invokevirtual 222, 3) := by decide +kernel
theorem d11_spare_101 : decode b11_spare 101 = .ok (.invokestatic 225, 3) := by decide +kernel
theorem d11_spare_104 : decode b11_spare 104 = .ok (.istore 5, 2) := by decide +kernel
theorem d11_spare_106 : decode b11_spare 106 = .ok (.iload 5, 2) := by decide +kernel
theorem d11_spare_108 : decode b11_spare 108 = .ok (.iload_n 3, 1) := by decide +kernel
theorem d11_spare_109 : decode b11_spare 109 = .ok (.if_icmp .ge 9, 3) := by decide +kernel
theorem d11_spare_112 : decode b11_spare 112 = .ok (.iload 5, 2) := by decide +kernel
theorem d11_spare_114 : decode b11_spare 114 = .ok (.istore_n 3, 1) := by decide +kernel
theorem d11_spare_115 : decode b11_spare 115 = .ok (.iload 4, 2) := by decide +kernel
theorem d11_spare_117 : decode b11_spare 117 = .ok (.istore_n 2, 1) := by decide +kernel
theorem d11_spare_118 : decode b11_spare 118 = .ok (.iinc 4 1, 3) := by decide +kernel
theorem d11_spare_121 : decode b11_spare 121 = .ok (.goto (-78), 3) := by decide +kernel
theorem d11_spare_124 : decode b11_spare 124 = .ok (.iload_n 2, 1) := by decide +kernel
theorem d11_spare_125 : decode b11_spare 125 = .ok (.iconst (-1), 1) := by decide +kernel
theorem d11_spare_126 : decode b11_spare 126 = .ok (.if_icmp .ne 7, 3) := by decide +kernel
theorem d11_spare_129 : decode b11_spare 129 = .ok (.iconst (-1), 1) := by decide +kernel
theorem d11_spare_130 : decode b11_spare 130 = .ok (.goto 15, 3) := by decide +kernel
theorem d11_spare_133 : decode b11_spare 133 = .ok (.bipush 10, 2) := by decide +kernel
theorem d11_spare_135 : decode b11_spare 135 = .ok (.iload_n 2, 1) := by decide +kernel
theorem d11_spare_136 : decode b11_spare 136 = .ok (.invokestatic 159, 3) := by decide +kernel
theorem d11_spare_139 : decode b11_spare 139 = .ok (.imul, 1) := by decide +kernel
theorem d11_spare_140 : decode b11_spare 140 = .ok (.iload_n 2, 1) := by decide +kernel
theorem d11_spare_141 : decode b11_spare 141 = .ok (.invokestatic 163, 3) := by decide +kernel
theorem d11_spare_144 : decode b11_spare 144 = .ok (.iadd, 1) := by decide +kernel
theorem d11_spare_145 : decode b11_spare 145 = .ok (.ireturn, 1) := by decide +kernel
theorem ml_11_298 : Cond.methodLink cn_11 298 y2_cablesIn ∈ ce_cm := ce_cm_of (List.mem_of_getElem? (i := 1073) (by decide +kernel)) (by decide +kernel)
def f11_spare_b43 (F : Nat) (x1 : Int32) (x2 : Int32) (x3 : Int32) (x4 : Int32) (h : Hp) : Option ((Int32 × Int32 × Int32 × Hp) ⊕ (Int32 × Hp)) :=
  if (40 : Int32) ≤ x4 then
    some (.inr (x2, h))
  else
    ce_nm ((h 0 2).toNatClampNeg) (fun k_51 => if ce_isNet k_51 then
      Option.bind (f5_isLesserEnd F k_51 x4 h) (fun o56 =>
        if o56.1 = 0 then
          some (.inl (x2, x3, x4 + (1 : Int32), o56.2))
        else
          Option.bind (f11_nodeOf F x4 o56.2) (fun o69 =>
            Option.bind (f2_areOne F x1 o69.1 o69.2) (fun o72 =>
              if o72.1 = 0 then
                some (.inl (x2, x3, x4 + (1 : Int32), o72.2))
              else
                ce_nm ((o72.2 0 2).toNatClampNeg) (fun k_83 => if ce_isNet k_83 then
                  Option.bind (f10_isBridge F k_83 x4 o72.2) (fun o88 =>
                    if o88.1 = 0 then
                      Option.bind (f11_longestWithout F x1 x4 o88.2) (fun o98 =>
                        Option.bind (f11_gapFor F o98.1 o98.2) (fun o101 =>
                          if x3 ≤ o101.1 then
                            some (.inl (x2, x3, x4 + (1 : Int32), o101.2))
                          else
                            some (.inl (x4, o101.1, x4 + (1 : Int32), o101.2))))
                    else
                      some (.inl (x2, x3, x4 + (1 : Int32), o88.2)))
                else none))))
    else none)
set_option maxRecDepth 20000 in
theorem l11_spare_43 (C : ce_Cx p s m args c meth b11_spare 6 (some .int) cn_11 D ad cA B0 (ce_St aK aV B0)) (F : Nat) (x1 : Int32)  (r : Int32 × Hp) (g : (Int32 × Hp) → Option (Int32 × Hp)) (hx : ∀ (x2 : Int32) (h : Hp) (H : Heap) (locs : List Loc) (ls : Array Slot), ce_H D ad cA B0 [] s h H locs → lv_has ls 6 [(2, .int x2)] → g (x2, h) = some r → W p l e0 { frames := 4, cells := 0, slots := 0, locals := 97 } s m args below meth c H locs 0 0 (MQ below (ce_Q D ad cA B0 (ce_St aK aV B0) (some (.int r.1)) r.2) args s 0 0 (fun q => B0 ≤ q)) (F0 m 124 ls [])) : ∀ (n : Nat) (x2 : Int32) (x3 : Int32) (x4 : Int32) (h : Hp) (H : Heap) (locs : List Loc) (ls : Array Slot), ce_H D ad cA B0 [] s h H locs → lv_has ls 6 [(0, .ref (ad 0)), (1, .int x1), (2, .int x2), (3, .int x3), (4, .int x4)] → Option.bind (ce_it (fun (st : Int32 × Int32 × Int32 × Hp) => f11_spare_b43 F x1 st.1 st.2.1 st.2.2.1 st.2.2.2) n (x2, x3, x4, h)) g = some r → W p l e0 { frames := 4, cells := 0, slots := 0, locals := 97 } s m args below meth c H locs 0 0 (MQ below (ce_Q D ad cA B0 (ce_St aK aV B0) (some (.int r.1)) r.2) args s 0 0 (fun q => B0 ≤ q)) (F0 m 43 ls []) := by
  intro n
  induction n with
  | zero =>
    intro x2 x3 x4 h H locs ls hH hl e
    exact absurd e (fun z => by cases z)
  | succ n ih =>
    intro x2 x3 x4 h H locs ls hH hl e
    have hx9 := C.1
    have hb := C.2.1
    have e : Option.bind (f11_spare_b43 F x1 x2 x3 x4 h) _ = some r := ce_it_bd e
    unfold f11_spare_b43 at e
    refine lv_iload hx9 hb d11_spare_43 (lv_at hl 4 rfl) ?_
    refine lv_bipush (v := (40 : Int32)) hx9 hb d11_spare_45 (by decide) ?_
    refine lv_icmp_ge (tgt := 124) hx9 hb d11_spare_47 (by decide) (fun hc47 => ?_) (fun hc47 => ?_)
    · have e := ce_if1 e hc47
      exact hx x2 h _ _ _ hH (lv_sub hl [2] rfl) e
    · have e := ce_if0 e hc47
      refine lv_aload_n hx9 hb d11_spare_50 rfl (lv_at hl 0 rfl) ?_
      refine gf_11_26 C hH d11_spare_51 ?_
      obtain ⟨k_51, ek_51, e⟩ := ce_nmE e
      obtain ⟨hk_51, e⟩ := ce_gd e
      rw [← ek_51]
      refine lv_iload hx9 hb d11_spare_54 (lv_at hl 4 rfl) ?_
      obtain ⟨o56, eo56, e⟩ := ce_bd e
      refine ce_callV (As := [.int x4]) (rest := []) C (ce_sok aK aV B0) hH (c5_isLesserEnd l D ad cA aK aV B0 C.2.2.2.2.2.2.1 F k_51 x4 hk_51 h o56 eo56) (lk_Net hk_51).1 (lk_Net hk_51).2.choose_spec rfl rfl mc5_isLesserEnd ml_11_291 mi5_isLesserEnd ms5_isLesserEnd mI_5 (n := 1) (by decide) rfl ⟨Nat.le_of_ble_eq_true rfl, Nat.le_of_ble_eq_true rfl⟩ ⟨Nat.le_of_ble_eq_true rfl, Nat.le_of_ble_eq_true rfl⟩ hl.1 rfl (Nat.le_of_ble_eq_true rfl) d11_spare_56 (fun H locs hH => ?_)
      refine W.eq (g2 := F0 m 59 ls [.int o56.1]) rfl ?_
      refine lv_if_eq (tgt := 118) hx9 hb d11_spare_59 (by decide) (fun hc59 => ?_) (fun hc59 => ?_)
      · have e := ce_if1 e hc59
        refine lv_iinc (v := x4 + (1 : Int32)) (lv' := [(4, .int (x4 + (1 : Int32))), (0, .ref (ad 0)), (1, .int x1), (2, .int x2), (3, .int x3)]) hx9 hb d11_spare_118 hl (k := 4) rfl rfl (by decide) rfl (fun ls hl => ?_)
        refine lv_goto (tgt := 43) hx9 hb d11_spare_121 (by decide) ?_
        exact ih x2 x3 (x4 + (1 : Int32)) o56.2 _ _ _ hH (lv_sub hl [1, 2, 3, 4, 0] rfl) e
      · have e := ce_if0 e hc59
        refine lv_aload_n hx9 hb d11_spare_62 rfl (lv_at hl 0 rfl) ?_
        refine gf_11_60 C hH d11_spare_63 ?_
        refine lv_iload_n hx9 hb d11_spare_66 rfl (lv_at hl 1 rfl) ?_
        refine lv_iload hx9 hb d11_spare_67 (lv_at hl 4 rfl) ?_
        obtain ⟨o69, eo69, e⟩ := ce_bd e
        refine ce_callS (As := [.int x4]) (rest := [.int x1, .ref (ad 44)]) C (ce_sok aK aV B0) hH (c11_nodeOf l D ad cA aK aV B0 C.2.2.2.2.2.2.1 F x4  o56.2 o69 eo69) mc11_nodeOf ml_11_159 mt11_nodeOf mI_11 (n := 1) (by decide) rfl ⟨Nat.le_of_ble_eq_true rfl, Nat.le_of_ble_eq_true rfl⟩ ⟨Nat.le_of_ble_eq_true rfl, Nat.le_of_ble_eq_true rfl⟩ hl.1 rfl (Nat.le_of_ble_eq_true rfl) d11_spare_69 (fun H locs hH => ?_)
        refine W.eq (g2 := F0 m 72 ls [.int o69.1, .int x1, .ref (ad 44)]) rfl ?_
        obtain ⟨o72, eo72, e⟩ := ce_bd e
        refine ce_callV (As := [.int x1, .int o69.1]) (rest := []) C (ce_sok aK aV B0) hH (c2_areOne l D ad cA aK aV B0 C.2.2.2.2.2.2.1 F x1 o69.1  o69.2 o72 eo72) lo_44.1 lo_44.2.choose_spec rfl rfl mc2_areOne ml_11_229 mi2_areOne ms2_areOne mI_2 (n := 2) (by decide) rfl ⟨Nat.le_of_ble_eq_true rfl, Nat.le_of_ble_eq_true rfl⟩ ⟨Nat.le_of_ble_eq_true rfl, Nat.le_of_ble_eq_true rfl⟩ hl.1 rfl (Nat.le_of_ble_eq_true rfl) d11_spare_72 (fun H locs hH => ?_)
        refine W.eq (g2 := F0 m 75 ls [.int o72.1]) rfl ?_
        refine lv_if_eq (tgt := 118) hx9 hb d11_spare_75 (by decide) (fun hc75 => ?_) (fun hc75 => ?_)
        · have e := ce_if1 e hc75
          refine lv_iinc (v := x4 + (1 : Int32)) (lv' := [(4, .int (x4 + (1 : Int32))), (0, .ref (ad 0)), (1, .int x1), (2, .int x2), (3, .int x3)]) hx9 hb d11_spare_118 hl (k := 4) rfl rfl (by decide) rfl (fun ls hl => ?_)
          refine lv_goto (tgt := 43) hx9 hb d11_spare_121 (by decide) ?_
          exact ih x2 x3 (x4 + (1 : Int32)) o72.2 _ _ _ hH (lv_sub hl [1, 2, 3, 4, 0] rfl) e
        · have e := ce_if0 e hc75
          refine lv_aload_n hx9 hb d11_spare_78 rfl (lv_at hl 0 rfl) ?_
          refine gf_11_53 C hH d11_spare_79 ?_
          refine lv_aload_n hx9 hb d11_spare_82 rfl (lv_at hl 0 rfl) ?_
          refine gf_11_26 C hH d11_spare_83 ?_
          obtain ⟨k_83, ek_83, e⟩ := ce_nmE e
          obtain ⟨hk_83, e⟩ := ce_gd e
          rw [← ek_83]
          refine lv_iload hx9 hb d11_spare_86 (lv_at hl 4 rfl) ?_
          obtain ⟨o88, eo88, e⟩ := ce_bd e
          refine ce_callV (As := [.ref (ad k_83), .int x4]) (rest := []) C (ce_sok aK aV B0) hH (c10_isBridge l D ad cA aK aV B0 C.2.2.2.2.2.2.1 F k_83 x4 hk_83 o72.2 o88 eo88) lo_40.1 lo_40.2.choose_spec rfl rfl mc10_isBridge ml_11_294 mi10_isBridge ms10_isBridge mI_10 (n := 2) (by decide) rfl ⟨Nat.le_of_ble_eq_true rfl, Nat.le_of_ble_eq_true rfl⟩ ⟨Nat.le_of_ble_eq_true rfl, Nat.le_of_ble_eq_true rfl⟩ hl.1 rfl (Nat.le_of_ble_eq_true rfl) d11_spare_88 (fun H locs hH => ?_)
          refine W.eq (g2 := F0 m 91 ls [.int o88.1]) rfl ?_
          refine lv_if_ne (tgt := 118) hx9 hb d11_spare_91 (by decide) (fun hc91 => ?_) (fun hc91 => ?_)
          · have e := ce_if0 e hc91
            refine lv_iinc (v := x4 + (1 : Int32)) (lv' := [(4, .int (x4 + (1 : Int32))), (0, .ref (ad 0)), (1, .int x1), (2, .int x2), (3, .int x3)]) hx9 hb d11_spare_118 hl (k := 4) rfl rfl (by decide) rfl (fun ls hl => ?_)
            refine lv_goto (tgt := 43) hx9 hb d11_spare_121 (by decide) ?_
            exact ih x2 x3 (x4 + (1 : Int32)) o88.2 _ _ _ hH (lv_sub hl [1, 2, 3, 4, 0] rfl) e
          · have e := ce_if1 e hc91
            refine lv_aload_n hx9 hb d11_spare_94 rfl (lv_at hl 0 rfl) ?_
            refine lv_iload_n hx9 hb d11_spare_95 rfl (lv_at hl 1 rfl) ?_
            refine lv_iload hx9 hb d11_spare_96 (lv_at hl 4 rfl) ?_
            obtain ⟨o98, eo98, e⟩ := ce_bd e
            refine ce_callV (As := [.int x1, .int x4]) (rest := []) C (ce_sok aK aV B0) hH (c11_longestWithout l D ad cA aK aV B0 C.2.2.2.2.2.2.1 F x1 x4  o88.2 o98 eo98) lo_0.1 lo_0.2.choose_spec rfl rfl mc11_longestWithout ml_11_222 mi11_longestWithout ms11_longestWithout mI_11 (n := 2) (by decide) rfl ⟨Nat.le_of_ble_eq_true rfl, Nat.le_of_ble_eq_true rfl⟩ ⟨Nat.le_of_ble_eq_true rfl, Nat.le_of_ble_eq_true rfl⟩ hl.1 rfl (Nat.le_of_ble_eq_true rfl) d11_spare_98 (fun H locs hH => ?_)
            refine W.eq (g2 := F0 m 101 ls [.int o98.1]) rfl ?_
            obtain ⟨o101, eo101, e⟩ := ce_bd e
            refine ce_callS (As := [.int o98.1]) (rest := []) C (ce_sok aK aV B0) hH (c11_gapFor l D ad cA aK aV B0 C.2.2.2.2.2.2.1 F o98.1  o98.2 o101 eo101) mc11_gapFor ml_11_225 mt11_gapFor mI_11 (n := 1) (by decide) rfl ⟨Nat.le_of_ble_eq_true rfl, Nat.le_of_ble_eq_true rfl⟩ ⟨Nat.le_of_ble_eq_true rfl, Nat.le_of_ble_eq_true rfl⟩ hl.1 rfl (Nat.le_of_ble_eq_true rfl) d11_spare_101 (fun H locs hH => ?_)
            refine W.eq (g2 := F0 m 104 ls [.int o101.1]) rfl ?_
            refine lv_istore (lv' := [(5, .int o101.1), (0, .ref (ad 0)), (1, .int x1), (2, .int x2), (3, .int x3), (4, .int x4)]) hx9 hb d11_spare_104 hl (by decide) rfl (fun ls hl => ?_)
            refine lv_iload hx9 hb d11_spare_106 (lv_at hl 0 rfl) ?_
            refine lv_iload_n hx9 hb d11_spare_108 rfl (lv_at hl 4 rfl) ?_
            refine lv_icmp_ge (tgt := 118) hx9 hb d11_spare_109 (by decide) (fun hc109 => ?_) (fun hc109 => ?_)
            · have e := ce_if1 e hc109
              refine lv_iinc (v := x4 + (1 : Int32)) (lv' := [(4, .int (x4 + (1 : Int32))), (5, .int o101.1), (0, .ref (ad 0)), (1, .int x1), (2, .int x2), (3, .int x3)]) hx9 hb d11_spare_118 hl (k := 5) rfl rfl (by decide) rfl (fun ls hl => ?_)
              refine lv_goto (tgt := 43) hx9 hb d11_spare_121 (by decide) ?_
              exact ih x2 x3 (x4 + (1 : Int32)) o101.2 _ _ _ hH (lv_sub hl [2, 3, 4, 5, 0] rfl) e
            · have e := ce_if0 e hc109
              refine lv_iload hx9 hb d11_spare_112 (lv_at hl 0 rfl) ?_
              refine lv_istore_n (lv' := [(3, .int o101.1), (5, .int o101.1), (0, .ref (ad 0)), (1, .int x1), (2, .int x2), (4, .int x4)]) hx9 hb d11_spare_114 rfl hl (by decide) rfl (fun ls hl => ?_)
              refine lv_iload hx9 hb d11_spare_115 (lv_at hl 5 rfl) ?_
              refine lv_istore_n (lv' := [(2, .int x4), (3, .int o101.1), (5, .int o101.1), (0, .ref (ad 0)), (1, .int x1), (4, .int x4)]) hx9 hb d11_spare_117 rfl hl (by decide) rfl (fun ls hl => ?_)
              refine lv_iinc (v := x4 + (1 : Int32)) (lv' := [(4, .int (x4 + (1 : Int32))), (2, .int x4), (3, .int o101.1), (5, .int o101.1), (0, .ref (ad 0)), (1, .int x1)]) hx9 hb d11_spare_118 hl (k := 5) rfl rfl (by decide) rfl (fun ls hl => ?_)
              refine lv_goto (tgt := 43) hx9 hb d11_spare_121 (by decide) ?_
              exact ih x4 o101.1 (x4 + (1 : Int32)) o101.2 _ _ _ hH (lv_sub hl [4, 5, 1, 2, 0] rfl) e
def f11_spare (F : Nat) (x1 : Int32) (h : Hp) : Option (Int32 × Hp) :=
  ce_nm ((h 0 2).toNatClampNeg) (fun k_1 => if ce_isNet k_1 then
    Option.bind (f5_hasNode F k_1 x1 h) (fun o5 =>
      if o5.1 = 0 then
        some ((-2 : Int32), o5.2)
      else
        Option.bind (f2_cablesIn F x1 o5.2) (fun o19 =>
          Option.bind (f2_nodesIn F x1 o19.2) (fun o27 =>
            if o19.1 = o27.1 then
              Option.bind (ce_it (fun (st : Int32 × Int32 × Int32 × Hp) => f11_spare_b43 F x1 st.1 st.2.1 st.2.2.1 st.2.2.2) F ((-1 : Int32), (1000000 : Int32), (0 : Int32), o27.2)) (fun o43 =>
                if o43.1 = (-1 : Int32) then
                  some ((-1 : Int32), o43.2)
                else
                  Option.bind (f11_nodeOf F o43.1 o43.2) (fun o136 =>
                    Option.bind (f11_portOf F o43.1 o136.2) (fun o141 =>
                      some (((10 : Int32) * o136.1) + o141.1, o141.2))))
            else
              some ((-1 : Int32), o27.2))))
  else none)
set_option maxRecDepth 20000 in
theorem c11_spare (l : Launch) (D : va_G) (ad : Nat → Nat) (cA : Nat → ClassId) (aK aV : Nat → Nat) (B0 : Nat) (hA : ce_Ad ad B0) (F : Nat) (x1 : Int32)  (h : Hp) (r : Int32 × Hp) (e : f11_spare F x1 h = some r) : ce_Ct l D ad cA B0 (ce_St aK aV B0) y11_spare b11_spare 6 (some .int) 4 97 0 0 [.ref (ad 0), .int x1] h (some (.int r.1)) r.2 := by
  refine ce_enter hA (by decide) rfl (Nat.le_of_ble_eq_true rfl) (fun p e0 s m below meth c ls C hH hl => ?_)
  have hl : lv_has ls 6 [(0, .ref (ad 0)), (1, .int x1)] := hl
  have hx := C.1
  have hb := C.2.1
  have e : Option.bind _ some = some r := (congrArg (fun z => Option.bind z some) e).trans rfl
  unfold f11_spare at e
  refine lv_aload_n hx hb d11_spare_0 rfl (lv_at hl 0 rfl) ?_
  refine gf_11_26 C hH d11_spare_1 ?_
  obtain ⟨k_1, ek_1, e⟩ := ce_nmE e
  obtain ⟨hk_1, e⟩ := ce_gd e
  rw [← ek_1]
  refine lv_iload_n hx hb d11_spare_4 rfl (lv_at hl 1 rfl) ?_
  obtain ⟨o5, eo5, e⟩ := ce_bd e
  refine ce_callV (As := [.int x1]) (rest := []) C (ce_sok aK aV B0) hH (c5_hasNode l D ad cA aK aV B0 C.2.2.2.2.2.2.1 F k_1 x1 hk_1 h o5 eo5) (lk_Net hk_1).1 (lk_Net hk_1).2.choose_spec rfl rfl mc5_hasNode ml_11_179 mi5_hasNode ms5_hasNode mI_5 (n := 1) (by decide) rfl ⟨Nat.le_of_ble_eq_true rfl, Nat.le_of_ble_eq_true rfl⟩ ⟨Nat.le_of_ble_eq_true rfl, Nat.le_of_ble_eq_true rfl⟩ hl.1 rfl (Nat.le_of_ble_eq_true rfl) d11_spare_5 (fun H locs hH => ?_)
  refine W.eq (g2 := F0 m 8 ls [.int o5.1]) rfl ?_
  refine lv_if_ne (tgt := 14) hx hb d11_spare_8 (by decide) (fun hc8 => ?_) (fun hc8 => ?_)
  · have e := ce_if0 e hc8
    refine lv_aload_n hx hb d11_spare_14 rfl (lv_at hl 0 rfl) ?_
    refine gf_11_60 C hH d11_spare_15 ?_
    refine lv_iload_n hx hb d11_spare_18 rfl (lv_at hl 1 rfl) ?_
    obtain ⟨o19, eo19, e⟩ := ce_bd e
    refine ce_callV (As := [.int x1]) (rest := []) C (ce_sok aK aV B0) hH (c2_cablesIn l D ad cA aK aV B0 C.2.2.2.2.2.2.1 F x1  o5.2 o19 eo19) lo_44.1 lo_44.2.choose_spec rfl rfl mc2_cablesIn ml_11_298 mi2_cablesIn ms2_cablesIn mI_2 (n := 1) (by decide) rfl ⟨Nat.le_of_ble_eq_true rfl, Nat.le_of_ble_eq_true rfl⟩ ⟨Nat.le_of_ble_eq_true rfl, Nat.le_of_ble_eq_true rfl⟩ hl.1 rfl (Nat.le_of_ble_eq_true rfl) d11_spare_19 (fun H locs hH => ?_)
    refine W.eq (g2 := F0 m 22 ls [.int o19.1]) rfl ?_
    refine lv_aload_n hx hb d11_spare_22 rfl (lv_at hl 0 rfl) ?_
    refine gf_11_60 C hH d11_spare_23 ?_
    refine lv_iload_n hx hb d11_spare_26 rfl (lv_at hl 1 rfl) ?_
    obtain ⟨o27, eo27, e⟩ := ce_bd e
    refine ce_callV (As := [.int x1]) (rest := [.int o19.1]) C (ce_sok aK aV B0) hH (c2_nodesIn l D ad cA aK aV B0 C.2.2.2.2.2.2.1 F x1  o19.2 o27 eo27) lo_44.1 lo_44.2.choose_spec rfl rfl mc2_nodesIn ml_11_199 mi2_nodesIn ms2_nodesIn mI_2 (n := 1) (by decide) rfl ⟨Nat.le_of_ble_eq_true rfl, Nat.le_of_ble_eq_true rfl⟩ ⟨Nat.le_of_ble_eq_true rfl, Nat.le_of_ble_eq_true rfl⟩ hl.1 rfl (Nat.le_of_ble_eq_true rfl) d11_spare_27 (fun H locs hH => ?_)
    refine W.eq (g2 := F0 m 30 ls [.int o27.1, .int o19.1]) rfl ?_
    refine lv_icmp_eq (tgt := 35) hx hb d11_spare_30 (by decide) (fun hc30 => ?_) (fun hc30 => ?_)
    · have e := ce_if1 e hc30
      refine lv_iconst (v := (-1 : Int32)) hx hb d11_spare_35 (by decide) ?_
      refine lv_istore_n (lv' := [(2, .int (-1 : Int32)), (0, .ref (ad 0)), (1, .int x1)]) hx hb d11_spare_36 rfl hl (by decide) rfl (fun ls hl => ?_)
      refine lv_ldc (v := (1000000 : Int32)) hx hb C.2.2.2.1 (C.2.2.2.2.1 _ mk_11_228) d11_spare_37 ?_
      refine lv_istore_n (lv' := [(3, .int (1000000 : Int32)), (2, .int (-1 : Int32)), (0, .ref (ad 0)), (1, .int x1)]) hx hb d11_spare_39 rfl hl (by decide) rfl (fun ls hl => ?_)
      refine lv_iconst (v := (0 : Int32)) hx hb d11_spare_40 (by decide) ?_
      refine lv_istore (lv' := [(4, .int (0 : Int32)), (3, .int (1000000 : Int32)), (2, .int (-1 : Int32)), (0, .ref (ad 0)), (1, .int x1)]) hx hb d11_spare_41 hl (by decide) rfl (fun ls hl => ?_)
      refine l11_spare_43 C F x1  r _ (fun y43_2 h_43 H locs ls hH hl e => ?_) F (-1 : Int32) (1000000 : Int32) (0 : Int32) o27.2 _ _ _ hH (lv_sub hl [3, 4, 2, 1, 0] rfl) (ce_as e)
      try dsimp only at e
      refine lv_iload_n hx hb d11_spare_124 rfl (lv_at hl 0 rfl) ?_
      refine lv_iconst (v := (-1 : Int32)) hx hb d11_spare_125 (by decide) ?_
      refine lv_icmp_ne (tgt := 133) hx hb d11_spare_126 (by decide) (fun hc126 => ?_) (fun hc126 => ?_)
      · have e := ce_if0 e hc126
        refine lv_bipush (v := (10 : Int32)) hx hb d11_spare_133 (by decide) ?_
        refine lv_iload_n hx hb d11_spare_135 rfl (lv_at hl 0 rfl) ?_
        obtain ⟨o136, eo136, e⟩ := ce_bd e
        refine ce_callS (As := [.int y43_2]) (rest := [.int (10 : Int32)]) C (ce_sok aK aV B0) hH (c11_nodeOf l D ad cA aK aV B0 C.2.2.2.2.2.2.1 F y43_2  h_43 o136 eo136) mc11_nodeOf ml_11_159 mt11_nodeOf mI_11 (n := 1) (by decide) rfl ⟨Nat.le_of_ble_eq_true rfl, Nat.le_of_ble_eq_true rfl⟩ ⟨Nat.le_of_ble_eq_true rfl, Nat.le_of_ble_eq_true rfl⟩ hl.1 rfl (Nat.le_of_ble_eq_true rfl) d11_spare_136 (fun H locs hH => ?_)
        refine W.eq (g2 := F0 m 139 ls [.int o136.1, .int (10 : Int32)]) rfl ?_
        refine lv_imul hx hb d11_spare_139 ?_
        refine lv_iload_n hx hb d11_spare_140 rfl (lv_at hl 0 rfl) ?_
        obtain ⟨o141, eo141, e⟩ := ce_bd e
        refine ce_callS (As := [.int y43_2]) (rest := [.int ((10 : Int32) * o136.1)]) C (ce_sok aK aV B0) hH (c11_portOf l D ad cA aK aV B0 C.2.2.2.2.2.2.1 F y43_2  o136.2 o141 eo141) mc11_portOf ml_11_163 mt11_portOf mI_11 (n := 1) (by decide) rfl ⟨Nat.le_of_ble_eq_true rfl, Nat.le_of_ble_eq_true rfl⟩ ⟨Nat.le_of_ble_eq_true rfl, Nat.le_of_ble_eq_true rfl⟩ hl.1 rfl (Nat.le_of_ble_eq_true rfl) d11_spare_141 (fun H locs hH => ?_)
        refine W.eq (g2 := F0 m 144 ls [.int o141.1, .int ((10 : Int32) * o136.1)]) rfl ?_
        refine lv_iadd hx hb d11_spare_144 ?_
        exact ce_iretE C (ce_sok aK aV B0) hH e d11_spare_145
      · have e := ce_if1 e hc126
        refine lv_iconst (v := (-1 : Int32)) hx hb d11_spare_129 (by decide) ?_
        refine lv_goto (tgt := 145) hx hb d11_spare_130 (by decide) ?_
        exact ce_iretE C (ce_sok aK aV B0) hH e d11_spare_145
    · have e := ce_if0 e hc30
      refine lv_iconst (v := (-1 : Int32)) hx hb d11_spare_33 (by decide) ?_
      exact ce_iretE C (ce_sok aK aV B0) hH e d11_spare_34
  · have e := ce_if1 e hc8
    refine lv_bipush (v := (-2 : Int32)) hx hb d11_spare_11 (by decide) ?_
    exact ce_iretE C (ce_sok aK aV B0) hH e d11_spare_13
abbrev b11_plug : ByteArray := prog_1_method_36_code
def y11_plug : MethodName := ⟨cn_11, "plug", "(IIIII)I"⟩
theorem d11_plug_0 : decode b11_plug 0 = .ok (.aload_n 0, 1) := by decide +kernel
theorem d11_plug_1 : decode b11_plug 1 = .ok (.getfield 26, 3) := by decide +kernel
theorem d11_plug_4 : decode b11_plug 4 = .ok (.iload_n 1, 1) := by decide +kernel
theorem d11_plug_5 : decode b11_plug 5 = .ok (.iload_n 2, 1) := by decide +kernel
theorem d11_plug_6 : decode b11_plug 6 = .ok (.invokevirtual 143, 3) := by decide +kernel
theorem d11_plug_9 : decode b11_plug 9 = .ok (.ifCond .eq 21, 3) := by decide +kernel
theorem d11_plug_12 : decode b11_plug 12 = .ok (.aload_n 0, 1) := by decide +kernel
theorem d11_plug_13 : decode b11_plug 13 = .ok (.getfield 26, 3) := by decide +kernel
theorem d11_plug_16 : decode b11_plug 16 = .ok (.iload_n 3, 1) := by decide +kernel
theorem d11_plug_17 : decode b11_plug 17 = .ok (.iload 4, 2) := by decide +kernel
theorem d11_plug_19 : decode b11_plug 19 = .ok (.invokevirtual 143, 3) := by decide +kernel
theorem d11_plug_22 : decode b11_plug 22 = .ok (.ifCond .eq 8, 3) := by decide +kernel
theorem d11_plug_25 : decode b11_plug 25 = .ok (.iload_n 1, 1) := by decide +kernel
theorem d11_plug_26 : decode b11_plug 26 = .ok (.iload_n 3, 1) := by decide +kernel
theorem d11_plug_27 : decode b11_plug 27 = .ok (.if_icmp .ne 6, 3) := by decide +kernel
theorem d11_plug_30 : decode b11_plug 30 = .ok (.bipush (-2), 2) := by decide +kernel
theorem d11_plug_32 : decode b11_plug 32 = .ok (.ireturn, 1) := by decide +kernel
theorem d11_plug_33 : decode b11_plug 33 = .ok (.iload 5, 2) := by decide +kernel
theorem d11_plug_35 : decode b11_plug 35 = .ok (.iconst 1, 1) := by decide +kernel
theorem d11_plug_36 : decode b11_plug 36 = .ok (.if_icmp .lt 10, 3) := by decide +kernel
theorem d11_plug_39 : decode b11_plug 39 = .ok (.iload 5, 2) := by decide +kernel
theorem d11_plug_41 : decode b11_plug 41 = .ok (.bipush 9, 2) := by decide +kernel
theorem d11_plug_43 : decode b11_plug 43 = .ok (.if_icmp .le 6, 3) := by decide +kernel
theorem d11_plug_46 : decode b11_plug 46 = .ok (.bipush (-2), 2) := by decide +kernel
theorem d11_plug_48 : decode b11_plug 48 = .ok (.ireturn, 1) := by decide +kernel
theorem d11_plug_49 : decode b11_plug 49 = .ok (.iload_n 1, 1) := by decide +kernel
theorem d11_plug_50 : decode b11_plug 50 = .ok (.iload_n 2, 1) := by decide +kernel
theorem d11_plug_51 : decode b11_plug 51 = .ok (.invokestatic 147, 3) := by decide +kernel
theorem d11_plug_54 : decode b11_plug 54 = .ok (.istore 6, 2) := by decide +kernel
theorem d11_plug_56 : decode b11_plug 56 = .ok (.iload_n 3, 1) := by decide +kernel
theorem d11_plug_57 : decode b11_plug 57 = .ok (.iload 4, 2) := by decide +kernel
theorem d11_plug_59 : decode b11_plug 59 = .ok (.invokestatic 147, 3) := by decide +kernel
theorem d11_plug_62 : decode b11_plug 62 = .ok (.istore 7, 2) := by decide +kernel
theorem d11_plug_64 : decode b11_plug 64 = .ok (.aload_n 0, 1) := by decide +kernel
theorem d11_plug_65 : decode b11_plug 65 = .ok (.getfield 26, 3) := by decide +kernel
theorem d11_plug_68 : decode b11_plug 68 = .ok (.iload 6, 2) := by decide +kernel
theorem d11_plug_70 : decode b11_plug 70 = .ok (.invokevirtual 285, 3) := by decide +kernel
theorem d11_plug_73 : decode b11_plug 73 = .ok (.ifCond .ne 25, 3) := by decide +kernel
theorem d11_plug_76 : decode b11_plug 76 = .ok (.aload_n 0, 1) := by decide +kernel
theorem d11_plug_77 : decode b11_plug 77 = .ok (.getfield 26, 3) := by decide +kernel
theorem d11_plug_80 : decode b11_plug 80 = .ok (.iload 7, 2) := by decide +kernel
theorem d11_plug_82 : decode b11_plug 82 = .ok (.invokevirtual 285, 3) := by decide +kernel
theorem d11_plug_85 : decode b11_plug 85 = .ok (.ifCond .ne 13, 3) := by decide +kernel
theorem d11_plug_88 : decode b11_plug 88 = .ok (.aload_n 0, 1) := by decide +kernel
theorem d11_plug_89 : decode b11_plug 89 = .ok (.getfield 46, 3) := by decide +kernel
theorem d11_plug_92 : decode b11_plug 92 = .ok (.invokevirtual 301, 3) := by decide +kernel
theorem d11_plug_95 : decode b11_plug 95 = .ok (.ifCond .eq 6, 3) := by decide +kernel
theorem d11_plug_98 : decode b11_plug 98 = .ok (.bipush (-5), 2) := by decide +kernel
theorem d11_plug_100 : decode b11_plug 100 = .ok (.ireturn, 1) := by decide +kernel
theorem d11_plug_101 : decode b11_plug 101 = .ok (.aload_n 0, 1) := by decide +kernel
theorem d11_plug_102 : decode b11_plug 102 = .ok (.getfield 46, 3) := by decide +kernel
theorem d11_plug_105 : decode b11_plug 105 = .ok (.iconst 0, 1) := by decide +kernel
theorem d11_plug_106 : decode b11_plug 106 = .ok (.iload 6, 2) := by decide +kernel
theorem d11_plug_108 : decode b11_plug 108 = .ok (.iload 7, 2) := by decide +kernel
theorem d11_plug_110 : decode b11_plug 110 = .ok (.iload 5, 2) := by decide +kernel
theorem d11_plug_112 : decode b11_plug 112 = .ok (.invokevirtual 304, 3) := by decide +kernel
theorem d11_plug_115 : decode b11_plug 115 = .ok (.aload_n 0, 1) := by decide +kernel
theorem d11_plug_116 : decode b11_plug 116 = .ok (.getfield 26, 3) := by decide +kernel
theorem d11_plug_119 : decode b11_plug 119 = .ok (.iload 6, 2) := by decide +kernel
theorem d11_plug_121 : decode b11_plug 121 = .ok (.iload 7, 2) := by decide +kernel
theorem d11_plug_123 : decode b11_plug 123 = .ok (.iload 5, 2) := by decide +kernel
theorem d11_plug_125 : decode b11_plug 125 = .ok (.invokevirtual 308, 3) := by decide +kernel
theorem d11_plug_128 : decode b11_plug 128 = .ok (.aload_n 0, 1) := by decide +kernel
theorem d11_plug_129 : decode b11_plug 129 = .ok (.invokevirtual 113, 3) := by decide +kernel
theorem d11_plug_132 : decode b11_plug 132 = .ok (.aload_n 0, 1) := by decide +kernel
theorem d11_plug_133 : decode b11_plug 133 = .ok (.getfield 60, 3) := by decide +kernel
theorem d11_plug_136 : decode b11_plug 136 = .ok (.getfield 137, 3) := by decide +kernel
theorem d11_plug_139 : decode b11_plug 139 = .ok (.ireturn, 1) := by decide +kernel
theorem ml_11_308 : Cond.methodLink cn_11 308 y5_link ∈ ce_cm := ce_cm_of (List.mem_of_getElem? (i := 1087) (by decide +kernel)) (by decide +kernel)
theorem mc0_keep : Cond.code y0_keep b0_keep 5 none ∈ ce_cm := ce_cm_of (List.mem_of_getElem? (i := 1085) (by decide +kernel)) (by decide +kernel)
theorem ml_11_304 : Cond.methodLink cn_11 304 y0_keep ∈ ce_cm := ce_cm_of (List.mem_of_getElem? (i := 1082) (by decide +kernel)) (by decide +kernel)
theorem mi0_keep : Cond.instanceMethod y0_keep ∈ ce_cm := ce_cm_of (List.mem_of_getElem? (i := 1083) (by decide +kernel)) (by decide +kernel)
theorem ms0_keep : Cond.selects cn_0 y0_keep y0_keep ∈ ce_cm := ce_cm_of (List.mem_of_getElem? (i := 1084) (by decide +kernel)) (by decide +kernel)
theorem ml_11_301 : Cond.methodLink cn_11 301 y0_areFull ∈ ce_cm := ce_cm_of (List.mem_of_getElem? (i := 1078) (by decide +kernel)) (by decide +kernel)
def f11_plug (F : Nat) (x1 : Int32) (x2 : Int32) (x3 : Int32) (x4 : Int32) (x5 : Int32) (h : Hp) : Option (Int32 × Hp) :=
  ce_nm ((h 0 2).toNatClampNeg) (fun k_1 => if ce_isNet k_1 then
    Option.bind (f5_hasPort F k_1 x1 x2 h) (fun o6 =>
      if o6.1 = 0 then
        some ((-2 : Int32), o6.2)
      else
        ce_nm ((o6.2 0 2).toNatClampNeg) (fun k_13 => if ce_isNet k_13 then
          Option.bind (f5_hasPort F k_13 x3 x4 o6.2) (fun o19 =>
            if o19.1 = 0 then
              some ((-2 : Int32), o19.2)
            else
              if x1 = x3 then
                some ((-2 : Int32), o19.2)
              else
                if x5 < (1 : Int32) then
                  some ((-2 : Int32), o19.2)
                else
                  if x5 ≤ (9 : Int32) then
                    Option.bind (f11_endOf F x1 x2 o19.2) (fun o51 =>
                      Option.bind (f11_endOf F x3 x4 o51.2) (fun o59 =>
                        ce_nm ((o59.2 0 2).toNatClampNeg) (fun k_65 => if ce_isNet k_65 then
                          Option.bind (f5_isCabled F k_65 o51.1 o59.2) (fun o70 =>
                            if o70.1 = 0 then
                              ce_nm ((o70.2 0 2).toNatClampNeg) (fun k_77 => if ce_isNet k_77 then
                                Option.bind (f5_isCabled F k_77 o59.1 o70.2) (fun o82 =>
                                  if o82.1 = 0 then
                                    Option.bind (f0_areFull F  o82.2) (fun o92 =>
                                      if o92.1 = 0 then
                                        Option.bind (f0_keep F (0 : Int32) o51.1 o59.1 x5 o92.2) (fun o112 =>
                                          ce_nm ((o112 0 2).toNatClampNeg) (fun k_116 => if ce_isNet k_116 then
                                            Option.bind (f5_link F k_116 o51.1 o59.1 x5 o112) (fun o125 =>
                                              Option.bind (f11_refresh F  o125) (fun o129 =>
                                                some (o129 44 0, o129)))
                                          else none))
                                      else
                                        some ((-5 : Int32), o92.2))
                                  else
                                    some ((-5 : Int32), o82.2))
                              else none)
                            else
                              some ((-5 : Int32), o70.2))
                        else none)))
                  else
                    some ((-2 : Int32), o19.2))
        else none))
  else none)
set_option maxRecDepth 20000 in
theorem c11_plug (l : Launch) (D : va_G) (ad : Nat → Nat) (cA : Nat → ClassId) (aK aV : Nat → Nat) (B0 : Nat) (hA : ce_Ad ad B0) (F : Nat) (x1 : Int32) (x2 : Int32) (x3 : Int32) (x4 : Int32) (x5 : Int32)  (h : Hp) (r : Int32 × Hp) (e : f11_plug F x1 x2 x3 x4 x5 h = some r) : ce_Ct l D ad cA B0 (ce_St aK aV B0) y11_plug b11_plug 8 (some .int) 6 141 0 0 [.ref (ad 0), .int x1, .int x2, .int x3, .int x4, .int x5] h (some (.int r.1)) r.2 := by
  refine ce_enter hA (by decide) rfl (Nat.le_of_ble_eq_true rfl) (fun p e0 s m below meth c ls C hH hl => ?_)
  have hl : lv_has ls 8 [(0, .ref (ad 0)), (1, .int x1), (2, .int x2), (3, .int x3), (4, .int x4), (5, .int x5)] := hl
  have hx := C.1
  have hb := C.2.1
  have e : Option.bind _ some = some r := (congrArg (fun z => Option.bind z some) e).trans rfl
  unfold f11_plug at e
  refine lv_aload_n hx hb d11_plug_0 rfl (lv_at hl 0 rfl) ?_
  refine gf_11_26 C hH d11_plug_1 ?_
  obtain ⟨k_1, ek_1, e⟩ := ce_nmE e
  obtain ⟨hk_1, e⟩ := ce_gd e
  rw [← ek_1]
  refine lv_iload_n hx hb d11_plug_4 rfl (lv_at hl 1 rfl) ?_
  refine lv_iload_n hx hb d11_plug_5 rfl (lv_at hl 2 rfl) ?_
  obtain ⟨o6, eo6, e⟩ := ce_bd e
  refine ce_callV (As := [.int x1, .int x2]) (rest := []) C (ce_sok aK aV B0) hH (c5_hasPort l D ad cA aK aV B0 C.2.2.2.2.2.2.1 F k_1 x1 x2 hk_1 h o6 eo6) (lk_Net hk_1).1 (lk_Net hk_1).2.choose_spec rfl rfl mc5_hasPort ml_11_143 mi5_hasPort ms5_hasPort mI_5 (n := 2) (by decide) rfl ⟨Nat.le_of_ble_eq_true rfl, Nat.le_of_ble_eq_true rfl⟩ ⟨Nat.le_of_ble_eq_true rfl, Nat.le_of_ble_eq_true rfl⟩ hl.1 rfl (Nat.le_of_ble_eq_true rfl) d11_plug_6 (fun H locs hH => ?_)
  refine W.eq (g2 := F0 m 9 ls [.int o6.1]) rfl ?_
  refine lv_if_eq (tgt := 30) hx hb d11_plug_9 (by decide) (fun hc9 => ?_) (fun hc9 => ?_)
  · have e := ce_if1 e hc9
    refine lv_bipush (v := (-2 : Int32)) hx hb d11_plug_30 (by decide) ?_
    exact ce_iretE C (ce_sok aK aV B0) hH e d11_plug_32
  · have e := ce_if0 e hc9
    refine lv_aload_n hx hb d11_plug_12 rfl (lv_at hl 0 rfl) ?_
    refine gf_11_26 C hH d11_plug_13 ?_
    obtain ⟨k_13, ek_13, e⟩ := ce_nmE e
    obtain ⟨hk_13, e⟩ := ce_gd e
    rw [← ek_13]
    refine lv_iload_n hx hb d11_plug_16 rfl (lv_at hl 3 rfl) ?_
    refine lv_iload hx hb d11_plug_17 (lv_at hl 4 rfl) ?_
    obtain ⟨o19, eo19, e⟩ := ce_bd e
    refine ce_callV (As := [.int x3, .int x4]) (rest := []) C (ce_sok aK aV B0) hH (c5_hasPort l D ad cA aK aV B0 C.2.2.2.2.2.2.1 F k_13 x3 x4 hk_13 o6.2 o19 eo19) (lk_Net hk_13).1 (lk_Net hk_13).2.choose_spec rfl rfl mc5_hasPort ml_11_143 mi5_hasPort ms5_hasPort mI_5 (n := 2) (by decide) rfl ⟨Nat.le_of_ble_eq_true rfl, Nat.le_of_ble_eq_true rfl⟩ ⟨Nat.le_of_ble_eq_true rfl, Nat.le_of_ble_eq_true rfl⟩ hl.1 rfl (Nat.le_of_ble_eq_true rfl) d11_plug_19 (fun H locs hH => ?_)
    refine W.eq (g2 := F0 m 22 ls [.int o19.1]) rfl ?_
    refine lv_if_eq (tgt := 30) hx hb d11_plug_22 (by decide) (fun hc22 => ?_) (fun hc22 => ?_)
    · have e := ce_if1 e hc22
      refine lv_bipush (v := (-2 : Int32)) hx hb d11_plug_30 (by decide) ?_
      exact ce_iretE C (ce_sok aK aV B0) hH e d11_plug_32
    · have e := ce_if0 e hc22
      refine lv_iload_n hx hb d11_plug_25 rfl (lv_at hl 1 rfl) ?_
      refine lv_iload_n hx hb d11_plug_26 rfl (lv_at hl 3 rfl) ?_
      refine lv_icmp_ne (tgt := 33) hx hb d11_plug_27 (by decide) (fun hc27 => ?_) (fun hc27 => ?_)
      · have e := ce_if0 e hc27
        refine lv_iload hx hb d11_plug_33 (lv_at hl 5 rfl) ?_
        refine lv_iconst (v := (1 : Int32)) hx hb d11_plug_35 (by decide) ?_
        refine lv_icmp_lt (tgt := 46) hx hb d11_plug_36 (by decide) (fun hc36 => ?_) (fun hc36 => ?_)
        · have e := ce_if1 e hc36
          refine lv_bipush (v := (-2 : Int32)) hx hb d11_plug_46 (by decide) ?_
          exact ce_iretE C (ce_sok aK aV B0) hH e d11_plug_48
        · have e := ce_if0 e hc36
          refine lv_iload hx hb d11_plug_39 (lv_at hl 5 rfl) ?_
          refine lv_bipush (v := (9 : Int32)) hx hb d11_plug_41 (by decide) ?_
          refine lv_icmp_le (tgt := 49) hx hb d11_plug_43 (by decide) (fun hc43 => ?_) (fun hc43 => ?_)
          · have e := ce_if1 e hc43
            refine lv_iload_n hx hb d11_plug_49 rfl (lv_at hl 1 rfl) ?_
            refine lv_iload_n hx hb d11_plug_50 rfl (lv_at hl 2 rfl) ?_
            obtain ⟨o51, eo51, e⟩ := ce_bd e
            refine ce_callS (As := [.int x1, .int x2]) (rest := []) C (ce_sok aK aV B0) hH (c11_endOf l D ad cA aK aV B0 C.2.2.2.2.2.2.1 F x1 x2  o19.2 o51 eo51) mc11_endOf ml_11_147 mt11_endOf mI_11 (n := 2) (by decide) rfl ⟨Nat.le_of_ble_eq_true rfl, Nat.le_of_ble_eq_true rfl⟩ ⟨Nat.le_of_ble_eq_true rfl, Nat.le_of_ble_eq_true rfl⟩ hl.1 rfl (Nat.le_of_ble_eq_true rfl) d11_plug_51 (fun H locs hH => ?_)
            refine W.eq (g2 := F0 m 54 ls [.int o51.1]) rfl ?_
            refine lv_istore (lv' := [(6, .int o51.1), (0, .ref (ad 0)), (1, .int x1), (2, .int x2), (3, .int x3), (4, .int x4), (5, .int x5)]) hx hb d11_plug_54 hl (by decide) rfl (fun ls hl => ?_)
            refine lv_iload_n hx hb d11_plug_56 rfl (lv_at hl 4 rfl) ?_
            refine lv_iload hx hb d11_plug_57 (lv_at hl 5 rfl) ?_
            obtain ⟨o59, eo59, e⟩ := ce_bd e
            refine ce_callS (As := [.int x3, .int x4]) (rest := []) C (ce_sok aK aV B0) hH (c11_endOf l D ad cA aK aV B0 C.2.2.2.2.2.2.1 F x3 x4  o51.2 o59 eo59) mc11_endOf ml_11_147 mt11_endOf mI_11 (n := 2) (by decide) rfl ⟨Nat.le_of_ble_eq_true rfl, Nat.le_of_ble_eq_true rfl⟩ ⟨Nat.le_of_ble_eq_true rfl, Nat.le_of_ble_eq_true rfl⟩ hl.1 rfl (Nat.le_of_ble_eq_true rfl) d11_plug_59 (fun H locs hH => ?_)
            refine W.eq (g2 := F0 m 62 ls [.int o59.1]) rfl ?_
            refine lv_istore (lv' := [(7, .int o59.1), (6, .int o51.1), (0, .ref (ad 0)), (1, .int x1), (2, .int x2), (3, .int x3), (4, .int x4), (5, .int x5)]) hx hb d11_plug_62 hl (by decide) rfl (fun ls hl => ?_)
            refine lv_aload_n hx hb d11_plug_64 rfl (lv_at hl 2 rfl) ?_
            refine gf_11_26 C hH d11_plug_65 ?_
            obtain ⟨k_65, ek_65, e⟩ := ce_nmE e
            obtain ⟨hk_65, e⟩ := ce_gd e
            rw [← ek_65]
            refine lv_iload hx hb d11_plug_68 (lv_at hl 1 rfl) ?_
            obtain ⟨o70, eo70, e⟩ := ce_bd e
            refine ce_callV (As := [.int o51.1]) (rest := []) C (ce_sok aK aV B0) hH (c5_isCabled l D ad cA aK aV B0 C.2.2.2.2.2.2.1 F k_65 o51.1 hk_65 o59.2 o70 eo70) (lk_Net hk_65).1 (lk_Net hk_65).2.choose_spec rfl rfl mc5_isCabled ml_11_285 mi5_isCabled ms5_isCabled mI_5 (n := 1) (by decide) rfl ⟨Nat.le_of_ble_eq_true rfl, Nat.le_of_ble_eq_true rfl⟩ ⟨Nat.le_of_ble_eq_true rfl, Nat.le_of_ble_eq_true rfl⟩ hl.1 rfl (Nat.le_of_ble_eq_true rfl) d11_plug_70 (fun H locs hH => ?_)
            refine W.eq (g2 := F0 m 73 ls [.int o70.1]) rfl ?_
            refine lv_if_ne (tgt := 98) hx hb d11_plug_73 (by decide) (fun hc73 => ?_) (fun hc73 => ?_)
            · have e := ce_if0 e hc73
              refine lv_bipush (v := (-5 : Int32)) hx hb d11_plug_98 (by decide) ?_
              exact ce_iretE C (ce_sok aK aV B0) hH e d11_plug_100
            · have e := ce_if1 e hc73
              refine lv_aload_n hx hb d11_plug_76 rfl (lv_at hl 2 rfl) ?_
              refine gf_11_26 C hH d11_plug_77 ?_
              obtain ⟨k_77, ek_77, e⟩ := ce_nmE e
              obtain ⟨hk_77, e⟩ := ce_gd e
              rw [← ek_77]
              refine lv_iload hx hb d11_plug_80 (lv_at hl 0 rfl) ?_
              obtain ⟨o82, eo82, e⟩ := ce_bd e
              refine ce_callV (As := [.int o59.1]) (rest := []) C (ce_sok aK aV B0) hH (c5_isCabled l D ad cA aK aV B0 C.2.2.2.2.2.2.1 F k_77 o59.1 hk_77 o70.2 o82 eo82) (lk_Net hk_77).1 (lk_Net hk_77).2.choose_spec rfl rfl mc5_isCabled ml_11_285 mi5_isCabled ms5_isCabled mI_5 (n := 1) (by decide) rfl ⟨Nat.le_of_ble_eq_true rfl, Nat.le_of_ble_eq_true rfl⟩ ⟨Nat.le_of_ble_eq_true rfl, Nat.le_of_ble_eq_true rfl⟩ hl.1 rfl (Nat.le_of_ble_eq_true rfl) d11_plug_82 (fun H locs hH => ?_)
              refine W.eq (g2 := F0 m 85 ls [.int o82.1]) rfl ?_
              refine lv_if_ne (tgt := 98) hx hb d11_plug_85 (by decide) (fun hc85 => ?_) (fun hc85 => ?_)
              · have e := ce_if0 e hc85
                refine lv_bipush (v := (-5 : Int32)) hx hb d11_plug_98 (by decide) ?_
                exact ce_iretE C (ce_sok aK aV B0) hH e d11_plug_100
              · have e := ce_if1 e hc85
                refine lv_aload_n hx hb d11_plug_88 rfl (lv_at hl 2 rfl) ?_
                refine gf_11_46 C hH d11_plug_89 ?_
                obtain ⟨o92, eo92, e⟩ := ce_bd e
                refine ce_callV (As := []) (rest := []) C (ce_sok aK aV B0) hH (c0_areFull l D ad cA aK aV B0 C.2.2.2.2.2.2.1 F   o82.2 o92 eo92) lo_35.1 lo_35.2.choose_spec rfl rfl mc0_areFull ml_11_301 mi0_areFull ms0_areFull mI_0 (n := 0) (by decide) rfl ⟨Nat.le_of_ble_eq_true rfl, Nat.le_of_ble_eq_true rfl⟩ ⟨Nat.le_of_ble_eq_true rfl, Nat.le_of_ble_eq_true rfl⟩ hl.1 rfl (Nat.le_of_ble_eq_true rfl) d11_plug_92 (fun H locs hH => ?_)
                refine W.eq (g2 := F0 m 95 ls [.int o92.1]) rfl ?_
                refine lv_if_eq (tgt := 101) hx hb d11_plug_95 (by decide) (fun hc95 => ?_) (fun hc95 => ?_)
                · have e := ce_if1 e hc95
                  refine lv_aload_n hx hb d11_plug_101 rfl (lv_at hl 2 rfl) ?_
                  refine gf_11_46 C hH d11_plug_102 ?_
                  refine lv_iconst (v := (0 : Int32)) hx hb d11_plug_105 (by decide) ?_
                  refine lv_iload hx hb d11_plug_106 (lv_at hl 1 rfl) ?_
                  refine lv_iload hx hb d11_plug_108 (lv_at hl 0 rfl) ?_
                  refine lv_iload hx hb d11_plug_110 (lv_at hl 7 rfl) ?_
                  obtain ⟨o112, eo112, e⟩ := ce_bd e
                  refine ce_callV (As := [.int (0 : Int32), .int o51.1, .int o59.1, .int x5]) (rest := []) C (ce_sok aK aV B0) hH (c0_keep l D ad cA aK aV B0 C.2.2.2.2.2.2.1 F (0 : Int32) o51.1 o59.1 x5  o92.2 o112 eo112) lo_35.1 lo_35.2.choose_spec rfl rfl mc0_keep ml_11_304 mi0_keep ms0_keep mI_0 (n := 4) (by decide) rfl ⟨Nat.le_of_ble_eq_true rfl, Nat.le_of_ble_eq_true rfl⟩ ⟨Nat.le_of_ble_eq_true rfl, Nat.le_of_ble_eq_true rfl⟩ hl.1 rfl (Nat.le_of_ble_eq_true rfl) d11_plug_112 (fun H locs hH => ?_)
                  refine W.eq (g2 := F0 m 115 ls []) rfl ?_
                  refine lv_aload_n hx hb d11_plug_115 rfl (lv_at hl 2 rfl) ?_
                  refine gf_11_26 C hH d11_plug_116 ?_
                  obtain ⟨k_116, ek_116, e⟩ := ce_nmE e
                  obtain ⟨hk_116, e⟩ := ce_gd e
                  rw [← ek_116]
                  refine lv_iload hx hb d11_plug_119 (lv_at hl 1 rfl) ?_
                  refine lv_iload hx hb d11_plug_121 (lv_at hl 0 rfl) ?_
                  refine lv_iload hx hb d11_plug_123 (lv_at hl 7 rfl) ?_
                  obtain ⟨o125, eo125, e⟩ := ce_bd e
                  refine ce_callV (As := [.int o51.1, .int o59.1, .int x5]) (rest := []) C (ce_sok aK aV B0) hH (c5_link l D ad cA aK aV B0 C.2.2.2.2.2.2.1 F k_116 o51.1 o59.1 x5 hk_116 o112 o125 eo125) (lk_Net hk_116).1 (lk_Net hk_116).2.choose_spec rfl rfl mc5_link ml_11_308 mi5_link ms5_link mI_5 (n := 3) (by decide) rfl ⟨Nat.le_of_ble_eq_true rfl, Nat.le_of_ble_eq_true rfl⟩ ⟨Nat.le_of_ble_eq_true rfl, Nat.le_of_ble_eq_true rfl⟩ hl.1 rfl (Nat.le_of_ble_eq_true rfl) d11_plug_125 (fun H locs hH => ?_)
                  refine W.eq (g2 := F0 m 128 ls []) rfl ?_
                  refine lv_aload_n hx hb d11_plug_128 rfl (lv_at hl 2 rfl) ?_
                  obtain ⟨o129, eo129, e⟩ := ce_bd e
                  refine ce_callV (As := []) (rest := []) C (ce_sok aK aV B0) hH (c11_refresh l D ad cA aK aV B0 C.2.2.2.2.2.2.1 F   o125 o129 eo129) lo_0.1 lo_0.2.choose_spec rfl rfl mc11_refresh ml_11_113 mi11_refresh ms11_refresh mI_11 (n := 0) (by decide) rfl ⟨Nat.le_of_ble_eq_true rfl, Nat.le_of_ble_eq_true rfl⟩ ⟨Nat.le_of_ble_eq_true rfl, Nat.le_of_ble_eq_true rfl⟩ hl.1 rfl (Nat.le_of_ble_eq_true rfl) d11_plug_129 (fun H locs hH => ?_)
                  refine W.eq (g2 := F0 m 132 ls []) rfl ?_
                  refine lv_aload_n hx hb d11_plug_132 rfl (lv_at hl 2 rfl) ?_
                  refine gf_11_60 C hH d11_plug_133 ?_
                  refine gf_11_137 C hH d11_plug_136 ?_
                  exact ce_iretE C (ce_sok aK aV B0) hH e d11_plug_139
                · have e := ce_if0 e hc95
                  refine lv_bipush (v := (-5 : Int32)) hx hb d11_plug_98 (by decide) ?_
                  exact ce_iretE C (ce_sok aK aV B0) hH e d11_plug_100
          · have e := ce_if0 e hc43
            refine lv_bipush (v := (-2 : Int32)) hx hb d11_plug_46 (by decide) ?_
            exact ce_iretE C (ce_sok aK aV B0) hH e d11_plug_48
      · have e := ce_if1 e hc27
        refine lv_bipush (v := (-2 : Int32)) hx hb d11_plug_30 (by decide) ?_
        exact ce_iretE C (ce_sok aK aV B0) hH e d11_plug_32
abbrev b11_pull : ByteArray := prog_1_method_37_code
def y11_pull : MethodName := ⟨cn_11, "pull", "(II)I"⟩
theorem d11_pull_0 : decode b11_pull 0 = .ok (.aload_n 0, 1) := by decide +kernel
theorem d11_pull_1 : decode b11_pull 1 = .ok (.getfield 26, 3) := by decide +kernel
theorem d11_pull_4 : decode b11_pull 4 = .ok (.iload_n 1, 1) := by decide +kernel
theorem d11_pull_5 : decode b11_pull 5 = .ok (.iload_n 2, 1) := by decide +kernel
theorem d11_pull_6 : decode b11_pull 6 = .ok (.invokevirtual 143, 3) := by decide +kernel
theorem d11_pull_9 : decode b11_pull 9 = .ok (.ifCond .ne 6, 3) := by decide +kernel
theorem d11_pull_12 : decode b11_pull 12 = .ok (.bipush (-2), 2) := by decide +kernel
theorem d11_pull_14 : decode b11_pull 14 = .ok (.ireturn, 1) := by decide +kernel
theorem d11_pull_15 : decode b11_pull 15 = .ok (.iload_n 1, 1) := by decide +kernel
theorem d11_pull_16 : decode b11_pull 16 = .ok (.iload_n 2, 1) := by decide +kernel
theorem d11_pull_17 : decode b11_pull 17 = .ok (.invokestatic 147, 3) := by decide +kernel
theorem d11_pull_20 : decode b11_pull 20 = .ok (.istore_n 3, 1) := by decide +kernel
theorem d11_pull_21 : decode b11_pull 21 = .ok (.aload_n 0, 1) := by decide +kernel
theorem d11_pull_22 : decode b11_pull 22 = .ok (.getfield 26, 3) := by decide +kernel
theorem d11_pull_25 : decode b11_pull 25 = .ok (.iload_n 3, 1) := by decide +kernel
theorem d11_pull_26 : decode b11_pull 26 = .ok (.invokevirtual 285, 3) := by decide +kernel
theorem d11_pull_29 : decode b11_pull 29 = .ok (.ifCond .eq 13, 3) := by decide +kernel
theorem d11_pull_32 : decode b11_pull 32 = .ok (.aload_n 0, 1) := by decide +kernel
theorem d11_pull_33 : decode b11_pull 33 = .ok (.getfield 46, 3) := by decide +kernel
theorem d11_pull_36 : decode b11_pull 36 = .ok (.invokevirtual 301, 3) := by decide +kernel
theorem d11_pull_39 : decode b11_pull 39 = .ok (.ifCond .eq 6, 3) := by decide +kernel
theorem d11_pull_42 : decode b11_pull 42 = .ok (.bipush (-5), 2) := by decide +kernel
theorem d11_pull_44 : decode b11_pull 44 = .ok (.ireturn, 1) := by decide +kernel
theorem d11_pull_45 : decode b11_pull 45 = .ok (.aload_n 0, 1) := by decide +kernel
theorem d11_pull_46 : decode b11_pull 46 = .ok (.getfield 46, 3) := by decide +kernel
theorem d11_pull_49 : decode b11_pull 49 = .ok (.iconst 1, 1) := by decide +kernel
theorem d11_pull_50 : decode b11_pull 50 = .ok (.iload_n 3, 1) := by decide +kernel
theorem d11_pull_51 : decode b11_pull 51 = .ok (.aload_n 0, 1) := by decide +kernel
theorem d11_pull_52 : decode b11_pull 52 = .ok (.getfield 26, 3) := by decide +kernel
theorem d11_pull_55 : decode b11_pull 55 = .ok (.getfield 151, 3) := by decide +kernel
theorem d11_pull_58 : decode b11_pull 58 = .ok (.iload_n 3, 1) := by decide +kernel
theorem d11_pull_59 : decode b11_pull 59 = .ok (.iaload, 1) := by decide +kernel
theorem d11_pull_60 : decode b11_pull 60 = .ok (.aload_n 0, 1) := by decide +kernel
theorem d11_pull_61 : decode b11_pull 61 = .ok (.getfield 26, 3) := by decide +kernel
theorem d11_pull_64 : decode b11_pull 64 = .ok (.getfield 166, 3) := by decide +kernel
theorem d11_pull_67 : decode b11_pull 67 = .ok (.iload_n 3, 1) := by decide +kernel
theorem d11_pull_68 : decode b11_pull 68 = .ok (.iaload, 1) := by decide +kernel
theorem d11_pull_69 : decode b11_pull 69 = .ok (.invokevirtual 304, 3) := by decide +kernel
theorem d11_pull_72 : decode b11_pull 72 = .ok (.aload_n 0, 1) := by decide +kernel
theorem d11_pull_73 : decode b11_pull 73 = .ok (.getfield 26, 3) := by decide +kernel
theorem d11_pull_76 : decode b11_pull 76 = .ok (.iload_n 3, 1) := by decide +kernel
theorem d11_pull_77 : decode b11_pull 77 = .ok (.invokevirtual 312, 3) := by decide +kernel
theorem d11_pull_80 : decode b11_pull 80 = .ok (.aload_n 0, 1) := by decide +kernel
theorem d11_pull_81 : decode b11_pull 81 = .ok (.invokevirtual 113, 3) := by decide +kernel
theorem d11_pull_84 : decode b11_pull 84 = .ok (.aload_n 0, 1) := by decide +kernel
theorem d11_pull_85 : decode b11_pull 85 = .ok (.getfield 60, 3) := by decide +kernel
theorem d11_pull_88 : decode b11_pull 88 = .ok (.getfield 137, 3) := by decide +kernel
theorem d11_pull_91 : decode b11_pull 91 = .ok (.ireturn, 1) := by decide +kernel
theorem ml_11_312 : Cond.methodLink cn_11 312 y5_unlink ∈ ce_cm := ce_cm_of (List.mem_of_getElem? (i := 1092) (by decide +kernel)) (by decide +kernel)
def f11_pull (F : Nat) (x1 : Int32) (x2 : Int32) (h : Hp) : Option (Int32 × Hp) :=
  ce_nm ((h 0 2).toNatClampNeg) (fun k_1 => if ce_isNet k_1 then
    Option.bind (f5_hasPort F k_1 x1 x2 h) (fun o6 =>
      if o6.1 = 0 then
        some ((-2 : Int32), o6.2)
      else
        Option.bind (f11_endOf F x1 x2 o6.2) (fun o17 =>
          ce_nm ((o17.2 0 2).toNatClampNeg) (fun k_22 => if ce_isNet k_22 then
            Option.bind (f5_isCabled F k_22 o17.1 o17.2) (fun o26 =>
              if o26.1 = 0 then
                some ((-5 : Int32), o26.2)
              else
                Option.bind (f0_areFull F  o26.2) (fun o36 =>
                  if o36.1 = 0 then
                    ce_nm ((o36.2 0 2).toNatClampNeg) (fun k_52 => if ce_isNet k_52 then
                      if ce_in o17.1 40 = true then
                        ce_nm ((o36.2 0 2).toNatClampNeg) (fun k_61 => if ce_isNet k_61 then
                          if ce_in o17.1 40 = true then
                            Option.bind (f0_keep F (1 : Int32) o17.1 (o36.2 (k_52 + 5) (o17.1).toNatClampNeg) (o36.2 (k_61 + 6) (o17.1).toNatClampNeg) o36.2) (fun o69 =>
                              ce_nm ((o69 0 2).toNatClampNeg) (fun k_73 => if ce_isNet k_73 then
                                Option.bind (f5_unlink F k_73 o17.1 o69) (fun o77 =>
                                  Option.bind (f11_refresh F  o77) (fun o81 =>
                                    some (o81 44 0, o81)))
                              else none))
                          else none
                        else none)
                      else none
                    else none)
                  else
                    some ((-5 : Int32), o36.2)))
          else none)))
  else none)
set_option maxRecDepth 20000 in
theorem c11_pull (l : Launch) (D : va_G) (ad : Nat → Nat) (cA : Nat → ClassId) (aK aV : Nat → Nat) (B0 : Nat) (hA : ce_Ad ad B0) (F : Nat) (x1 : Int32) (x2 : Int32)  (h : Hp) (r : Int32 × Hp) (e : f11_pull F x1 x2 h = some r) : ce_Ct l D ad cA B0 (ce_St aK aV B0) y11_pull b11_pull 4 (some .int) 6 141 0 0 [.ref (ad 0), .int x1, .int x2] h (some (.int r.1)) r.2 := by
  refine ce_enter hA (by decide) rfl (Nat.le_of_ble_eq_true rfl) (fun p e0 s m below meth c ls C hH hl => ?_)
  have hl : lv_has ls 4 [(0, .ref (ad 0)), (1, .int x1), (2, .int x2)] := hl
  have hx := C.1
  have hb := C.2.1
  have e : Option.bind _ some = some r := (congrArg (fun z => Option.bind z some) e).trans rfl
  unfold f11_pull at e
  refine lv_aload_n hx hb d11_pull_0 rfl (lv_at hl 0 rfl) ?_
  refine gf_11_26 C hH d11_pull_1 ?_
  obtain ⟨k_1, ek_1, e⟩ := ce_nmE e
  obtain ⟨hk_1, e⟩ := ce_gd e
  rw [← ek_1]
  refine lv_iload_n hx hb d11_pull_4 rfl (lv_at hl 1 rfl) ?_
  refine lv_iload_n hx hb d11_pull_5 rfl (lv_at hl 2 rfl) ?_
  obtain ⟨o6, eo6, e⟩ := ce_bd e
  refine ce_callV (As := [.int x1, .int x2]) (rest := []) C (ce_sok aK aV B0) hH (c5_hasPort l D ad cA aK aV B0 C.2.2.2.2.2.2.1 F k_1 x1 x2 hk_1 h o6 eo6) (lk_Net hk_1).1 (lk_Net hk_1).2.choose_spec rfl rfl mc5_hasPort ml_11_143 mi5_hasPort ms5_hasPort mI_5 (n := 2) (by decide) rfl ⟨Nat.le_of_ble_eq_true rfl, Nat.le_of_ble_eq_true rfl⟩ ⟨Nat.le_of_ble_eq_true rfl, Nat.le_of_ble_eq_true rfl⟩ hl.1 rfl (Nat.le_of_ble_eq_true rfl) d11_pull_6 (fun H locs hH => ?_)
  refine W.eq (g2 := F0 m 9 ls [.int o6.1]) rfl ?_
  refine lv_if_ne (tgt := 15) hx hb d11_pull_9 (by decide) (fun hc9 => ?_) (fun hc9 => ?_)
  · have e := ce_if0 e hc9
    refine lv_iload_n hx hb d11_pull_15 rfl (lv_at hl 1 rfl) ?_
    refine lv_iload_n hx hb d11_pull_16 rfl (lv_at hl 2 rfl) ?_
    obtain ⟨o17, eo17, e⟩ := ce_bd e
    refine ce_callS (As := [.int x1, .int x2]) (rest := []) C (ce_sok aK aV B0) hH (c11_endOf l D ad cA aK aV B0 C.2.2.2.2.2.2.1 F x1 x2  o6.2 o17 eo17) mc11_endOf ml_11_147 mt11_endOf mI_11 (n := 2) (by decide) rfl ⟨Nat.le_of_ble_eq_true rfl, Nat.le_of_ble_eq_true rfl⟩ ⟨Nat.le_of_ble_eq_true rfl, Nat.le_of_ble_eq_true rfl⟩ hl.1 rfl (Nat.le_of_ble_eq_true rfl) d11_pull_17 (fun H locs hH => ?_)
    refine W.eq (g2 := F0 m 20 ls [.int o17.1]) rfl ?_
    refine lv_istore_n (lv' := [(3, .int o17.1), (0, .ref (ad 0)), (1, .int x1), (2, .int x2)]) hx hb d11_pull_20 rfl hl (by decide) rfl (fun ls hl => ?_)
    refine lv_aload_n hx hb d11_pull_21 rfl (lv_at hl 1 rfl) ?_
    refine gf_11_26 C hH d11_pull_22 ?_
    obtain ⟨k_22, ek_22, e⟩ := ce_nmE e
    obtain ⟨hk_22, e⟩ := ce_gd e
    rw [← ek_22]
    refine lv_iload_n hx hb d11_pull_25 rfl (lv_at hl 0 rfl) ?_
    obtain ⟨o26, eo26, e⟩ := ce_bd e
    refine ce_callV (As := [.int o17.1]) (rest := []) C (ce_sok aK aV B0) hH (c5_isCabled l D ad cA aK aV B0 C.2.2.2.2.2.2.1 F k_22 o17.1 hk_22 o17.2 o26 eo26) (lk_Net hk_22).1 (lk_Net hk_22).2.choose_spec rfl rfl mc5_isCabled ml_11_285 mi5_isCabled ms5_isCabled mI_5 (n := 1) (by decide) rfl ⟨Nat.le_of_ble_eq_true rfl, Nat.le_of_ble_eq_true rfl⟩ ⟨Nat.le_of_ble_eq_true rfl, Nat.le_of_ble_eq_true rfl⟩ hl.1 rfl (Nat.le_of_ble_eq_true rfl) d11_pull_26 (fun H locs hH => ?_)
    refine W.eq (g2 := F0 m 29 ls [.int o26.1]) rfl ?_
    refine lv_if_eq (tgt := 42) hx hb d11_pull_29 (by decide) (fun hc29 => ?_) (fun hc29 => ?_)
    · have e := ce_if1 e hc29
      refine lv_bipush (v := (-5 : Int32)) hx hb d11_pull_42 (by decide) ?_
      exact ce_iretE C (ce_sok aK aV B0) hH e d11_pull_44
    · have e := ce_if0 e hc29
      refine lv_aload_n hx hb d11_pull_32 rfl (lv_at hl 1 rfl) ?_
      refine gf_11_46 C hH d11_pull_33 ?_
      obtain ⟨o36, eo36, e⟩ := ce_bd e
      refine ce_callV (As := []) (rest := []) C (ce_sok aK aV B0) hH (c0_areFull l D ad cA aK aV B0 C.2.2.2.2.2.2.1 F   o26.2 o36 eo36) lo_35.1 lo_35.2.choose_spec rfl rfl mc0_areFull ml_11_301 mi0_areFull ms0_areFull mI_0 (n := 0) (by decide) rfl ⟨Nat.le_of_ble_eq_true rfl, Nat.le_of_ble_eq_true rfl⟩ ⟨Nat.le_of_ble_eq_true rfl, Nat.le_of_ble_eq_true rfl⟩ hl.1 rfl (Nat.le_of_ble_eq_true rfl) d11_pull_36 (fun H locs hH => ?_)
      refine W.eq (g2 := F0 m 39 ls [.int o36.1]) rfl ?_
      refine lv_if_eq (tgt := 45) hx hb d11_pull_39 (by decide) (fun hc39 => ?_) (fun hc39 => ?_)
      · have e := ce_if1 e hc39
        refine lv_aload_n hx hb d11_pull_45 rfl (lv_at hl 1 rfl) ?_
        refine gf_11_46 C hH d11_pull_46 ?_
        refine lv_iconst (v := (1 : Int32)) hx hb d11_pull_49 (by decide) ?_
        refine lv_iload_n hx hb d11_pull_50 rfl (lv_at hl 0 rfl) ?_
        refine lv_aload_n hx hb d11_pull_51 rfl (lv_at hl 1 rfl) ?_
        refine gf_11_26 C hH d11_pull_52 ?_
        obtain ⟨k_52, ek_52, e⟩ := ce_nmE e
        obtain ⟨hk_52, e⟩ := ce_gd e
        rw [← ek_52]
        refine gf_11_151 C hH hk_52 d11_pull_55 ?_
        refine lv_iload_n hx hb d11_pull_58 rfl (lv_at hl 0 rfl) ?_
        obtain ⟨hi59, e⟩ := ce_gd e
        refine ce_iald C hH (la_Net_5 hk_52).1 (la_Net_5 hk_52).2 (ce_in_vp hi59) d11_pull_59 ?_
        refine lv_aload_n hx hb d11_pull_60 rfl (lv_at hl 1 rfl) ?_
        refine gf_11_26 C hH d11_pull_61 ?_
        obtain ⟨k_61, ek_61, e⟩ := ce_nmE e
        obtain ⟨hk_61, e⟩ := ce_gd e
        rw [← ek_61]
        refine gf_11_166 C hH hk_61 d11_pull_64 ?_
        refine lv_iload_n hx hb d11_pull_67 rfl (lv_at hl 0 rfl) ?_
        obtain ⟨hi68, e⟩ := ce_gd e
        refine ce_iald C hH (la_Net_6 hk_61).1 (la_Net_6 hk_61).2 (ce_in_vp hi68) d11_pull_68 ?_
        obtain ⟨o69, eo69, e⟩ := ce_bd e
        refine ce_callV (As := [.int (1 : Int32), .int o17.1, .int (o36.2 (k_52 + 5) (o17.1).toNatClampNeg), .int (o36.2 (k_61 + 6) (o17.1).toNatClampNeg)]) (rest := []) C (ce_sok aK aV B0) hH (c0_keep l D ad cA aK aV B0 C.2.2.2.2.2.2.1 F (1 : Int32) o17.1 (o36.2 (k_52 + 5) (o17.1).toNatClampNeg) (o36.2 (k_61 + 6) (o17.1).toNatClampNeg)  o36.2 o69 eo69) lo_35.1 lo_35.2.choose_spec rfl rfl mc0_keep ml_11_304 mi0_keep ms0_keep mI_0 (n := 4) (by decide) rfl ⟨Nat.le_of_ble_eq_true rfl, Nat.le_of_ble_eq_true rfl⟩ ⟨Nat.le_of_ble_eq_true rfl, Nat.le_of_ble_eq_true rfl⟩ hl.1 rfl (Nat.le_of_ble_eq_true rfl) d11_pull_69 (fun H locs hH => ?_)
        refine W.eq (g2 := F0 m 72 ls []) rfl ?_
        refine lv_aload_n hx hb d11_pull_72 rfl (lv_at hl 1 rfl) ?_
        refine gf_11_26 C hH d11_pull_73 ?_
        obtain ⟨k_73, ek_73, e⟩ := ce_nmE e
        obtain ⟨hk_73, e⟩ := ce_gd e
        rw [← ek_73]
        refine lv_iload_n hx hb d11_pull_76 rfl (lv_at hl 0 rfl) ?_
        obtain ⟨o77, eo77, e⟩ := ce_bd e
        refine ce_callV (As := [.int o17.1]) (rest := []) C (ce_sok aK aV B0) hH (c5_unlink l D ad cA aK aV B0 C.2.2.2.2.2.2.1 F k_73 o17.1 hk_73 o69 o77 eo77) (lk_Net hk_73).1 (lk_Net hk_73).2.choose_spec rfl rfl mc5_unlink ml_11_312 mi5_unlink ms5_unlink mI_5 (n := 1) (by decide) rfl ⟨Nat.le_of_ble_eq_true rfl, Nat.le_of_ble_eq_true rfl⟩ ⟨Nat.le_of_ble_eq_true rfl, Nat.le_of_ble_eq_true rfl⟩ hl.1 rfl (Nat.le_of_ble_eq_true rfl) d11_pull_77 (fun H locs hH => ?_)
        refine W.eq (g2 := F0 m 80 ls []) rfl ?_
        refine lv_aload_n hx hb d11_pull_80 rfl (lv_at hl 1 rfl) ?_
        obtain ⟨o81, eo81, e⟩ := ce_bd e
        refine ce_callV (As := []) (rest := []) C (ce_sok aK aV B0) hH (c11_refresh l D ad cA aK aV B0 C.2.2.2.2.2.2.1 F   o77 o81 eo81) lo_0.1 lo_0.2.choose_spec rfl rfl mc11_refresh ml_11_113 mi11_refresh ms11_refresh mI_11 (n := 0) (by decide) rfl ⟨Nat.le_of_ble_eq_true rfl, Nat.le_of_ble_eq_true rfl⟩ ⟨Nat.le_of_ble_eq_true rfl, Nat.le_of_ble_eq_true rfl⟩ hl.1 rfl (Nat.le_of_ble_eq_true rfl) d11_pull_81 (fun H locs hH => ?_)
        refine W.eq (g2 := F0 m 84 ls []) rfl ?_
        refine lv_aload_n hx hb d11_pull_84 rfl (lv_at hl 1 rfl) ?_
        refine gf_11_60 C hH d11_pull_85 ?_
        refine gf_11_137 C hH d11_pull_88 ?_
        exact ce_iretE C (ce_sok aK aV B0) hH e d11_pull_91
      · have e := ce_if0 e hc39
        refine lv_bipush (v := (-5 : Int32)) hx hb d11_pull_42 (by decide) ?_
        exact ce_iretE C (ce_sok aK aV B0) hH e d11_pull_44
  · have e := ce_if1 e hc9
    refine lv_bipush (v := (-2 : Int32)) hx hb d11_pull_12 (by decide) ?_
    exact ce_iretE C (ce_sok aK aV B0) hH e d11_pull_14
abbrev b11_force : ByteArray := prog_1_method_38_code
def y11_force : MethodName := ⟨cn_11, "force", "(II)I"⟩
theorem d11_force_0 : decode b11_force 0 = .ok (.aload_n 0, 1) := by decide +kernel
theorem d11_force_1 : decode b11_force 1 = .ok (.getfield 26, 3) := by decide +kernel
theorem d11_force_4 : decode b11_force 4 = .ok (.iload_n 1, 1) := by decide +kernel
theorem d11_force_5 : decode b11_force 5 = .ok (.invokevirtual 179, 3) := by decide +kernel
theorem d11_force_8 : decode b11_force 8 = .ok (.ifCond .eq 12, 3) := by decide +kernel
theorem d11_force_11 : decode b11_force 11 = .ok (.iload_n 2, 1) := by decide +kernel
theorem d11_force_12 : decode b11_force 12 = .ok (.ifCond .lt 8, 3) := by decide +kernel
theorem d11_force_15 : decode b11_force 15 = .ok (.iload_n 2, 1) := by decide +kernel
theorem d11_force_16 : decode b11_force 16 = .ok (.iconst 1, 1) := by decide +kernel
theorem d11_force_17 : decode b11_force 17 = .ok (.if_icmp .le 6, 3) := by decide +kernel
theorem d11_force_20 : decode b11_force 20 = .ok (.bipush (-2), 2) := by decide +kernel
theorem d11_force_22 : decode b11_force 22 = .ok (.ireturn, 1) := by decide +kernel
theorem d11_force_23 : decode b11_force 23 = .ok (.iload_n 2, 1) := by decide +kernel
theorem d11_force_24 : decode b11_force 24 = .ok (.iconst 1, 1) := by decide +kernel
theorem d11_force_25 : decode b11_force 25 = .ok (.if_icmp .ne 7, 3) := by decide +kernel
theorem d11_force_28 : decode b11_force 28 = .ok (.iconst 1, 1) := by decide +kernel
theorem d11_force_29 : decode b11_force 29 = .ok (.goto 4, 3) := by decide +kernel
theorem d11_force_32 : decode b11_force 32 = .ok (.iconst 0, 1) := by decide +kernel
theorem d11_force_33 : decode b11_force 33 = .ok (.istore_n 3, 1) := by decide +kernel
theorem d11_force_34 : decode b11_force 34 = .ok (.aload_n 0, 1) := by decide +kernel
theorem d11_force_35 : decode b11_force 35 = .ok (.getfield 26, 3) := by decide +kernel
theorem d11_force_38 : decode b11_force 38 = .ok (.getfield 315, 3) := by decide +kernel
theorem d11_force_41 : decode b11_force 41 = .ok (.iload_n 1, 1) := by decide +kernel
theorem d11_force_42 : decode b11_force 42 = .ok (.baload, 1) := by decide +kernel
theorem d11_force_43 : decode b11_force 43 = .ok (.iload_n 3, 1) := by decide +kernel
theorem d11_force_44 : decode b11_force 44 = .ok (.if_icmp .eq 13, 3) := by decide +kernel
theorem d11_force_47 : decode b11_force 47 = .ok (.aload_n 0, 1) := by decide +kernel
theorem d11_force_48 : decode b11_force 48 = .ok (.getfield 46, 3) := by decide +kernel
theorem d11_force_51 : decode b11_force 51 = .ok (.invokevirtual 301, 3) := by decide +kernel
theorem d11_force_54 : decode b11_force 54 = .ok (.ifCond .eq 6, 3) := by decide +kernel
theorem d11_force_57 : decode b11_force 57 = .ok (.bipush (-5), 2) := by decide +kernel
theorem d11_force_59 : decode b11_force 59 = .ok (.ireturn, 1) := by decide +kernel
theorem d11_force_60 : decode b11_force 60 = .ok (.aload_n 0, 1) := by decide +kernel
theorem d11_force_61 : decode b11_force 61 = .ok (.getfield 46, 3) := by decide +kernel
theorem d11_force_64 : decode b11_force 64 = .ok (.iconst 2, 1) := by decide +kernel
theorem d11_force_65 : decode b11_force 65 = .ok (.iload_n 1, 1) := by decide +kernel
theorem d11_force_66 : decode b11_force 66 = .ok (.iconst (-1), 1) := by decide +kernel
theorem d11_force_67 : decode b11_force 67 = .ok (.iconst 0, 1) := by decide +kernel
theorem d11_force_68 : decode b11_force 68 = .ok (.invokevirtual 304, 3) := by decide +kernel
theorem d11_force_71 : decode b11_force 71 = .ok (.aload_n 0, 1) := by decide +kernel
theorem d11_force_72 : decode b11_force 72 = .ok (.getfield 26, 3) := by decide +kernel
theorem d11_force_75 : decode b11_force 75 = .ok (.getfield 315, 3) := by decide +kernel
theorem d11_force_78 : decode b11_force 78 = .ok (.iload_n 1, 1) := by decide +kernel
theorem d11_force_79 : decode b11_force 79 = .ok (.iload_n 3, 1) := by decide +kernel
theorem d11_force_80 : decode b11_force 80 = .ok (.bastore, 1) := by decide +kernel
theorem d11_force_81 : decode b11_force 81 = .ok (.aload_n 0, 1) := by decide +kernel
theorem d11_force_82 : decode b11_force 82 = .ok (.invokevirtual 113, 3) := by decide +kernel
theorem d11_force_85 : decode b11_force 85 = .ok (.aload_n 0, 1) := by decide +kernel
theorem d11_force_86 : decode b11_force 86 = .ok (.getfield 67, 3) := by decide +kernel
theorem d11_force_89 : decode b11_force 89 = .ok (.aload_n 0, 1) := by decide +kernel
theorem d11_force_90 : decode b11_force 90 = .ok (.getfield 60, 3) := by decide +kernel
theorem d11_force_93 : decode b11_force 93 = .ok (.iload_n 1, 1) := by decide +kernel
theorem d11_force_94 : decode b11_force 94 = .ok (.invokevirtual 172, 3) := by decide +kernel
theorem d11_force_97 : decode b11_force 97 = .ok (.ireturn, 1) := by decide +kernel
theorem fl_11_315 : Cond.fieldLink cn_11 315 (ft_5 6).1 (ft_5 6).2.1 (ft_5 6).2.2.1 ∈ ce_cm := ce_cm_of (List.mem_of_getElem? (i := 224) (by decide +kernel)) (by decide +kernel)
theorem gf_11_315 (C : ce_Cx p s m args c meth cc nL ret cn_11 D ad cA B0 (ce_St aK aV B0)) (hH : ce_H D ad cA B0 X s h H locs) {k : Nat} (hk : ce_isNet k) (hdg : decode cc pc = .ok (.getfield 315, 3)) (kk : W p l e0 R s m args below meth c H locs cells slots Q (F0 m (pc + 3) ls (.ref (ad (k + 2)) :: rest))) : W p l e0 R s m args below meth c H locs cells slots Q (F0 m pc ls (.ref (ad k) :: rest)) := by
  rcases hk with rfl | rfl
  · exact ce_get C hH (k := 7) (ci := 5) (j := 6) (N := 11) (sj := some (some 9)) (by decide) rfl rfl fw_5 (by decide) fl_11_315 rfl hdg kk
  · exact ce_get C hH (k := 14) (ci := 5) (j := 6) (N := 11) (sj := some (some 16)) (by decide) rfl rfl fw_5 (by decide) fl_11_315 rfl hdg kk
def f11_force_j33 (F : Nat) (x1 : Int32) (s0 : Int32) (h : Hp) : Option (Int32 × Hp) :=
  ce_nm ((h 0 2).toNatClampNeg) (fun k_35 => if ce_isNet k_35 then
    if ce_in x1 10 = true then
      if (h (k_35 + 2) (x1).toNatClampNeg) = s0 then
        some ((-5 : Int32), h)
      else
        Option.bind (f0_areFull F  h) (fun o51 =>
          if o51.1 = 0 then
            Option.bind (f0_keep F (2 : Int32) x1 (-1 : Int32) (0 : Int32) o51.2) (fun o68 =>
              ce_nm ((o68 0 2).toNatClampNeg) (fun k_72 => if ce_isNet k_72 then
                if ce_in x1 10 = true then
                  ce_nm (hp_up o68 (k_72 + 2) (x1).toNatClampNeg (vp_nar .boolean s0)) (fun h_80 =>
                    Option.bind (f11_refresh F  h_80) (fun o82 =>
                      Option.bind (f3_rootIn F 48 x1 o82) (fun o94 =>
                        some (o94.1, o94.2))))
                else none
              else none))
          else
            some ((-5 : Int32), o51.2))
    else none
  else none)
set_option maxRecDepth 20000 in
theorem j11_force_33 (C : ce_Cx p s m args c meth b11_force 4 (some .int) cn_11 D ad cA B0 (ce_St aK aV B0)) (F : Nat) (x1 : Int32) (s0 : Int32)  (r : Int32 × Hp) (h : Hp) (H : Heap) (locs : List Loc) (ls : Array Slot) (hH : ce_H D ad cA B0 [] s h H locs) (hl : lv_has ls 4 [(0, .ref (ad 0)), (1, .int x1)]) (e : Option.bind (f11_force_j33 F x1 s0 h) some = some r) : W p l e0 { frames := 6, cells := 0, slots := 0, locals := 141 } s m args below meth c H locs 0 0 (MQ below (ce_Q D ad cA B0 (ce_St aK aV B0) (some (.int r.1)) r.2) args s 0 0 (fun q => B0 ≤ q)) (F0 m 33 ls [.int s0]) := by
  have hx9 := C.1
  have hb := C.2.1
  unfold f11_force_j33 at e
  refine lv_istore_n (lv' := [(3, .int s0), (0, .ref (ad 0)), (1, .int x1)]) hx9 hb d11_force_33 rfl hl (by decide) rfl (fun ls hl => ?_)
  refine lv_aload_n hx9 hb d11_force_34 rfl (lv_at hl 1 rfl) ?_
  refine gf_11_26 C hH d11_force_35 ?_
  obtain ⟨k_35, ek_35, e⟩ := ce_nmE e
  obtain ⟨hk_35, e⟩ := ce_gd e
  rw [← ek_35]
  refine gf_11_315 C hH hk_35 d11_force_38 ?_
  refine lv_iload_n hx9 hb d11_force_41 rfl (lv_at hl 2 rfl) ?_
  obtain ⟨hi42, e⟩ := ce_gd e
  refine ce_zald C hH (la_Net_2 hk_35).1 (la_Net_2 hk_35).2 (ce_in_vp hi42) d11_force_42 ?_
  refine lv_iload_n hx9 hb d11_force_43 rfl (lv_at hl 0 rfl) ?_
  refine lv_icmp_eq (tgt := 57) hx9 hb d11_force_44 (by decide) (fun hc44 => ?_) (fun hc44 => ?_)
  · have e := ce_if1 e hc44
    refine lv_bipush (v := (-5 : Int32)) hx9 hb d11_force_57 (by decide) ?_
    exact ce_iretE C (ce_sok aK aV B0) hH e d11_force_59
  · have e := ce_if0 e hc44
    refine lv_aload_n hx9 hb d11_force_47 rfl (lv_at hl 1 rfl) ?_
    refine gf_11_46 C hH d11_force_48 ?_
    obtain ⟨o51, eo51, e⟩ := ce_bd e
    refine ce_callV (As := []) (rest := []) C (ce_sok aK aV B0) hH (c0_areFull l D ad cA aK aV B0 C.2.2.2.2.2.2.1 F   h o51 eo51) lo_35.1 lo_35.2.choose_spec rfl rfl mc0_areFull ml_11_301 mi0_areFull ms0_areFull mI_0 (n := 0) (by decide) rfl ⟨Nat.le_of_ble_eq_true rfl, Nat.le_of_ble_eq_true rfl⟩ ⟨Nat.le_of_ble_eq_true rfl, Nat.le_of_ble_eq_true rfl⟩ hl.1 rfl (Nat.le_of_ble_eq_true rfl) d11_force_51 (fun H locs hH => ?_)
    refine W.eq (g2 := F0 m 54 ls [.int o51.1]) rfl ?_
    refine lv_if_eq (tgt := 60) hx9 hb d11_force_54 (by decide) (fun hc54 => ?_) (fun hc54 => ?_)
    · have e := ce_if1 e hc54
      refine lv_aload_n hx9 hb d11_force_60 rfl (lv_at hl 1 rfl) ?_
      refine gf_11_46 C hH d11_force_61 ?_
      refine lv_iconst (v := (2 : Int32)) hx9 hb d11_force_64 (by decide) ?_
      refine lv_iload_n hx9 hb d11_force_65 rfl (lv_at hl 2 rfl) ?_
      refine lv_iconst (v := (-1 : Int32)) hx9 hb d11_force_66 (by decide) ?_
      refine lv_iconst (v := (0 : Int32)) hx9 hb d11_force_67 (by decide) ?_
      obtain ⟨o68, eo68, e⟩ := ce_bd e
      refine ce_callV (As := [.int (2 : Int32), .int x1, .int (-1 : Int32), .int (0 : Int32)]) (rest := []) C (ce_sok aK aV B0) hH (c0_keep l D ad cA aK aV B0 C.2.2.2.2.2.2.1 F (2 : Int32) x1 (-1 : Int32) (0 : Int32)  o51.2 o68 eo68) lo_35.1 lo_35.2.choose_spec rfl rfl mc0_keep ml_11_304 mi0_keep ms0_keep mI_0 (n := 4) (by decide) rfl ⟨Nat.le_of_ble_eq_true rfl, Nat.le_of_ble_eq_true rfl⟩ ⟨Nat.le_of_ble_eq_true rfl, Nat.le_of_ble_eq_true rfl⟩ hl.1 rfl (Nat.le_of_ble_eq_true rfl) d11_force_68 (fun H locs hH => ?_)
      refine W.eq (g2 := F0 m 71 ls []) rfl ?_
      refine lv_aload_n hx9 hb d11_force_71 rfl (lv_at hl 1 rfl) ?_
      refine gf_11_26 C hH d11_force_72 ?_
      obtain ⟨k_72, ek_72, e⟩ := ce_nmE e
      obtain ⟨hk_72, e⟩ := ce_gd e
      rw [← ek_72]
      refine gf_11_315 C hH hk_72 d11_force_75 ?_
      refine lv_iload_n hx9 hb d11_force_78 rfl (lv_at hl 2 rfl) ?_
      refine lv_iload_n hx9 hb d11_force_79 rfl (lv_at hl 0 rfl) ?_
      obtain ⟨hi80, e⟩ := ce_gd e
      refine ce_zast C hH (la_Net_2 hk_72).1 (la_Net_2 hk_72).2 (ce_in_vp hi80) d11_force_80 (fun H locs hH => ?_)
      obtain ⟨h_80, eh_80, e⟩ := ce_nmE e
      rw [← eh_80] at hH
      refine lv_aload_n hx9 hb d11_force_81 rfl (lv_at hl 1 rfl) ?_
      obtain ⟨o82, eo82, e⟩ := ce_bd e
      refine ce_callV (As := []) (rest := []) C (ce_sok aK aV B0) hH (c11_refresh l D ad cA aK aV B0 C.2.2.2.2.2.2.1 F   h_80 o82 eo82) lo_0.1 lo_0.2.choose_spec rfl rfl mc11_refresh ml_11_113 mi11_refresh ms11_refresh mI_11 (n := 0) (by decide) rfl ⟨Nat.le_of_ble_eq_true rfl, Nat.le_of_ble_eq_true rfl⟩ ⟨Nat.le_of_ble_eq_true rfl, Nat.le_of_ble_eq_true rfl⟩ hl.1 rfl (Nat.le_of_ble_eq_true rfl) d11_force_82 (fun H locs hH => ?_)
      refine W.eq (g2 := F0 m 85 ls []) rfl ?_
      refine lv_aload_n hx9 hb d11_force_85 rfl (lv_at hl 1 rfl) ?_
      refine gf_11_67 C hH d11_force_86 ?_
      refine lv_aload_n hx9 hb d11_force_89 rfl (lv_at hl 1 rfl) ?_
      refine gf_11_60 C hH d11_force_90 ?_
      refine lv_iload_n hx9 hb d11_force_93 rfl (lv_at hl 2 rfl) ?_
      obtain ⟨o94, eo94, e⟩ := ce_bd e
      refine ce_callV (As := [.ref (ad 44), .int x1]) (rest := []) C (ce_sok aK aV B0) hH (c3_rootIn l D ad cA aK aV B0 C.2.2.2.2.2.2.1 F 48 x1 (Or.inl rfl) o82 o94 eo94) (lk_El (Or.inl rfl)).1 (lk_El (Or.inl rfl)).2.choose_spec rfl rfl mc3_rootIn ml_11_172 mi3_rootIn ms3_rootIn mI_3 (n := 2) (by decide) rfl ⟨Nat.le_of_ble_eq_true rfl, Nat.le_of_ble_eq_true rfl⟩ ⟨Nat.le_of_ble_eq_true rfl, Nat.le_of_ble_eq_true rfl⟩ hl.1 rfl (Nat.le_of_ble_eq_true rfl) d11_force_94 (fun H locs hH => ?_)
      refine W.eq (g2 := F0 m 97 ls [.int o94.1]) rfl ?_
      exact ce_iretE C (ce_sok aK aV B0) hH e d11_force_97
    · have e := ce_if0 e hc54
      refine lv_bipush (v := (-5 : Int32)) hx9 hb d11_force_57 (by decide) ?_
      exact ce_iretE C (ce_sok aK aV B0) hH e d11_force_59
def f11_force (F : Nat) (x1 : Int32) (x2 : Int32) (h : Hp) : Option (Int32 × Hp) :=
  ce_nm ((h 0 2).toNatClampNeg) (fun k_1 => if ce_isNet k_1 then
    Option.bind (f5_hasNode F k_1 x1 h) (fun o5 =>
      if o5.1 = 0 then
        some ((-2 : Int32), o5.2)
      else
        if x2 < 0 then
          some ((-2 : Int32), o5.2)
        else
          if x2 ≤ (1 : Int32) then
            if x2 = (1 : Int32) then
              f11_force_j33 F x1 (1 : Int32) o5.2
            else
              f11_force_j33 F x1 (0 : Int32) o5.2
          else
            some ((-2 : Int32), o5.2))
  else none)
set_option maxRecDepth 20000 in
theorem c11_force (l : Launch) (D : va_G) (ad : Nat → Nat) (cA : Nat → ClassId) (aK aV : Nat → Nat) (B0 : Nat) (hA : ce_Ad ad B0) (F : Nat) (x1 : Int32) (x2 : Int32)  (h : Hp) (r : Int32 × Hp) (e : f11_force F x1 x2 h = some r) : ce_Ct l D ad cA B0 (ce_St aK aV B0) y11_force b11_force 4 (some .int) 6 141 0 0 [.ref (ad 0), .int x1, .int x2] h (some (.int r.1)) r.2 := by
  refine ce_enter hA (by decide) rfl (Nat.le_of_ble_eq_true rfl) (fun p e0 s m below meth c ls C hH hl => ?_)
  have hl : lv_has ls 4 [(0, .ref (ad 0)), (1, .int x1), (2, .int x2)] := hl
  have hx := C.1
  have hb := C.2.1
  have e : Option.bind _ some = some r := (congrArg (fun z => Option.bind z some) e).trans rfl
  unfold f11_force at e
  refine lv_aload_n hx hb d11_force_0 rfl (lv_at hl 0 rfl) ?_
  refine gf_11_26 C hH d11_force_1 ?_
  obtain ⟨k_1, ek_1, e⟩ := ce_nmE e
  obtain ⟨hk_1, e⟩ := ce_gd e
  rw [← ek_1]
  refine lv_iload_n hx hb d11_force_4 rfl (lv_at hl 1 rfl) ?_
  obtain ⟨o5, eo5, e⟩ := ce_bd e
  refine ce_callV (As := [.int x1]) (rest := []) C (ce_sok aK aV B0) hH (c5_hasNode l D ad cA aK aV B0 C.2.2.2.2.2.2.1 F k_1 x1 hk_1 h o5 eo5) (lk_Net hk_1).1 (lk_Net hk_1).2.choose_spec rfl rfl mc5_hasNode ml_11_179 mi5_hasNode ms5_hasNode mI_5 (n := 1) (by decide) rfl ⟨Nat.le_of_ble_eq_true rfl, Nat.le_of_ble_eq_true rfl⟩ ⟨Nat.le_of_ble_eq_true rfl, Nat.le_of_ble_eq_true rfl⟩ hl.1 rfl (Nat.le_of_ble_eq_true rfl) d11_force_5 (fun H locs hH => ?_)
  refine W.eq (g2 := F0 m 8 ls [.int o5.1]) rfl ?_
  refine lv_if_eq (tgt := 20) hx hb d11_force_8 (by decide) (fun hc8 => ?_) (fun hc8 => ?_)
  · have e := ce_if1 e hc8
    refine lv_bipush (v := (-2 : Int32)) hx hb d11_force_20 (by decide) ?_
    exact ce_iretE C (ce_sok aK aV B0) hH e d11_force_22
  · have e := ce_if0 e hc8
    refine lv_iload_n hx hb d11_force_11 rfl (lv_at hl 2 rfl) ?_
    refine lv_if_lt (tgt := 20) hx hb d11_force_12 (by decide) (fun hc12 => ?_) (fun hc12 => ?_)
    · have e := ce_if1 e hc12
      refine lv_bipush (v := (-2 : Int32)) hx hb d11_force_20 (by decide) ?_
      exact ce_iretE C (ce_sok aK aV B0) hH e d11_force_22
    · have e := ce_if0 e hc12
      refine lv_iload_n hx hb d11_force_15 rfl (lv_at hl 2 rfl) ?_
      refine lv_iconst (v := (1 : Int32)) hx hb d11_force_16 (by decide) ?_
      refine lv_icmp_le (tgt := 23) hx hb d11_force_17 (by decide) (fun hc17 => ?_) (fun hc17 => ?_)
      · have e := ce_if1 e hc17
        refine lv_iload_n hx hb d11_force_23 rfl (lv_at hl 2 rfl) ?_
        refine lv_iconst (v := (1 : Int32)) hx hb d11_force_24 (by decide) ?_
        refine lv_icmp_ne (tgt := 32) hx hb d11_force_25 (by decide) (fun hc25 => ?_) (fun hc25 => ?_)
        · have e := ce_if0 e hc25
          refine lv_iconst (v := (0 : Int32)) hx hb d11_force_32 (by decide) ?_
          exact j11_force_33 C F x1 (0 : Int32)  r o5.2 _ _ _ hH (lv_sub hl [0, 1] rfl) e
        · have e := ce_if1 e hc25
          refine lv_iconst (v := (1 : Int32)) hx hb d11_force_28 (by decide) ?_
          refine lv_goto (tgt := 33) hx hb d11_force_29 (by decide) ?_
          exact j11_force_33 C F x1 (1 : Int32)  r o5.2 _ _ _ hH (lv_sub hl [0, 1] rfl) e
      · have e := ce_if0 e hc17
        refine lv_bipush (v := (-2 : Int32)) hx hb d11_force_20 (by decide) ?_
        exact ce_iretE C (ce_sok aK aV B0) hH e d11_force_22
abbrev b11_undo : ByteArray := prog_1_method_39_code
def y11_undo : MethodName := ⟨cn_11, "undo", "()I"⟩
theorem d11_undo_0 : decode b11_undo 0 = .ok (.aload_n 0, 1) := by decide +kernel
theorem d11_undo_1 : decode b11_undo 1 = .ok (.getfield 26, 3) := by decide +kernel
theorem d11_undo_4 : decode b11_undo 4 = .ok (.getfield 116, 3) := by decide +kernel
theorem d11_undo_7 : decode b11_undo 7 = .ok (.ifCond .ne 6, 3) := by decide +kernel
theorem d11_undo_10 : decode b11_undo 10 = .ok (.bipush (-2), 2) := by decide +kernel
theorem d11_undo_12 : decode b11_undo 12 = .ok (.ireturn, 1) := by decide +kernel
theorem d11_undo_13 : decode b11_undo 13 = .ok (.aload_n 0, 1) := by decide +kernel
theorem d11_undo_14 : decode b11_undo 14 = .ok (.getfield 46, 3) := by decide +kernel
theorem d11_undo_17 : decode b11_undo 17 = .ok (.getfield 110, 3) := by decide +kernel
theorem d11_undo_20 : decode b11_undo 20 = .ok (.ifCond .ne 6, 3) := by decide +kernel
theorem d11_undo_23 : decode b11_undo 23 = .ok (.bipush (-5), 2) := by decide +kernel
theorem d11_undo_25 : decode b11_undo 25 = .ok (.ireturn, 1) := by decide +kernel
theorem d11_undo_26 : decode b11_undo 26 = .ok (.aload_n 0, 1) := by decide +kernel
theorem d11_undo_27 : decode b11_undo 27 = .ok (.getfield 46, 3) := by decide +kernel
theorem d11_undo_30 : decode b11_undo 30 = .ok (.aload_n 0, 1) := by decide +kernel
theorem d11_undo_31 : decode b11_undo 31 = .ok (.getfield 26, 3) := by decide +kernel
theorem d11_undo_34 : decode b11_undo 34 = .ok (.invokevirtual 319, 3) := by decide +kernel
theorem d11_undo_37 : decode b11_undo 37 = .ok (.aload_n 0, 1) := by decide +kernel
theorem d11_undo_38 : decode b11_undo 38 = .ok (.invokevirtual 113, 3) := by decide +kernel
theorem d11_undo_41 : decode b11_undo 41 = .ok (.aload_n 0, 1) := by decide +kernel
theorem d11_undo_42 : decode b11_undo 42 = .ok (.getfield 46, 3) := by decide +kernel
theorem d11_undo_45 : decode b11_undo 45 = .ok (.getfield 110, 3) := by decide +kernel
theorem d11_undo_48 : decode b11_undo 48 = .ok (.ireturn, 1) := by decide +kernel
theorem mc0_takeBack : Cond.code y0_takeBack b0_takeBack 3 none ∈ ce_cm := ce_cm_of (List.mem_of_getElem? (i := 1107) (by decide +kernel)) (by decide +kernel)
theorem ml_11_319 : Cond.methodLink cn_11 319 y0_takeBack ∈ ce_cm := ce_cm_of (List.mem_of_getElem? (i := 1104) (by decide +kernel)) (by decide +kernel)
theorem mi0_takeBack : Cond.instanceMethod y0_takeBack ∈ ce_cm := ce_cm_of (List.mem_of_getElem? (i := 1105) (by decide +kernel)) (by decide +kernel)
theorem ms0_takeBack : Cond.selects cn_0 y0_takeBack y0_takeBack ∈ ce_cm := ce_cm_of (List.mem_of_getElem? (i := 1106) (by decide +kernel)) (by decide +kernel)
def f11_undo (F : Nat)  (h : Hp) : Option (Int32 × Hp) :=
  ce_nm ((h 0 2).toNatClampNeg) (fun k_1 => if ce_isNet k_1 then
    if (h k_1 0) = 0 then
      some ((-2 : Int32), h)
    else
      if (h 35 0) = 0 then
        some ((-5 : Int32), h)
      else
        ce_nm ((h 0 2).toNatClampNeg) (fun k_31 => if ce_isNet k_31 then
          Option.bind (f0_takeBack F k_31 h) (fun o34 =>
            Option.bind (f11_refresh F  o34) (fun o38 =>
              some (o38 35 0, o38)))
        else none)
  else none)
set_option maxRecDepth 20000 in
theorem c11_undo (l : Launch) (D : va_G) (ad : Nat → Nat) (cA : Nat → ClassId) (aK aV : Nat → Nat) (B0 : Nat) (hA : ce_Ad ad B0) (F : Nat)   (h : Hp) (r : Int32 × Hp) (e : f11_undo F  h = some r) : ce_Ct l D ad cA B0 (ce_St aK aV B0) y11_undo b11_undo 1 (some .int) 6 141 0 0 [.ref (ad 0)] h (some (.int r.1)) r.2 := by
  refine ce_enter hA (by decide) rfl (Nat.le_of_ble_eq_true rfl) (fun p e0 s m below meth c ls C hH hl => ?_)
  have hl : lv_has ls 1 [(0, .ref (ad 0))] := hl
  have hx := C.1
  have hb := C.2.1
  have e : Option.bind _ some = some r := (congrArg (fun z => Option.bind z some) e).trans rfl
  unfold f11_undo at e
  refine lv_aload_n hx hb d11_undo_0 rfl (lv_at hl 0 rfl) ?_
  refine gf_11_26 C hH d11_undo_1 ?_
  obtain ⟨k_1, ek_1, e⟩ := ce_nmE e
  obtain ⟨hk_1, e⟩ := ce_gd e
  rw [← ek_1]
  refine gf_11_116 C hH hk_1 d11_undo_4 ?_
  refine lv_if_ne (tgt := 13) hx hb d11_undo_7 (by decide) (fun hc7 => ?_) (fun hc7 => ?_)
  · have e := ce_if0 e hc7
    refine lv_aload_n hx hb d11_undo_13 rfl (lv_at hl 0 rfl) ?_
    refine gf_11_46 C hH d11_undo_14 ?_
    refine gf_11_110 C hH d11_undo_17 ?_
    refine lv_if_ne (tgt := 26) hx hb d11_undo_20 (by decide) (fun hc20 => ?_) (fun hc20 => ?_)
    · have e := ce_if0 e hc20
      refine lv_aload_n hx hb d11_undo_26 rfl (lv_at hl 0 rfl) ?_
      refine gf_11_46 C hH d11_undo_27 ?_
      refine lv_aload_n hx hb d11_undo_30 rfl (lv_at hl 0 rfl) ?_
      refine gf_11_26 C hH d11_undo_31 ?_
      obtain ⟨k_31, ek_31, e⟩ := ce_nmE e
      obtain ⟨hk_31, e⟩ := ce_gd e
      rw [← ek_31]
      obtain ⟨o34, eo34, e⟩ := ce_bd e
      refine ce_callV (As := [.ref (ad k_31)]) (rest := []) C (ce_sok aK aV B0) hH (c0_takeBack l D ad cA aK aV B0 C.2.2.2.2.2.2.1 F k_31 hk_31 h o34 eo34) lo_35.1 lo_35.2.choose_spec rfl rfl mc0_takeBack ml_11_319 mi0_takeBack ms0_takeBack mI_0 (n := 1) (by decide) rfl ⟨Nat.le_of_ble_eq_true rfl, Nat.le_of_ble_eq_true rfl⟩ ⟨Nat.le_of_ble_eq_true rfl, Nat.le_of_ble_eq_true rfl⟩ hl.1 rfl (Nat.le_of_ble_eq_true rfl) d11_undo_34 (fun H locs hH => ?_)
      refine W.eq (g2 := F0 m 37 ls []) rfl ?_
      refine lv_aload_n hx hb d11_undo_37 rfl (lv_at hl 0 rfl) ?_
      obtain ⟨o38, eo38, e⟩ := ce_bd e
      refine ce_callV (As := []) (rest := []) C (ce_sok aK aV B0) hH (c11_refresh l D ad cA aK aV B0 C.2.2.2.2.2.2.1 F   o34 o38 eo38) lo_0.1 lo_0.2.choose_spec rfl rfl mc11_refresh ml_11_113 mi11_refresh ms11_refresh mI_11 (n := 0) (by decide) rfl ⟨Nat.le_of_ble_eq_true rfl, Nat.le_of_ble_eq_true rfl⟩ ⟨Nat.le_of_ble_eq_true rfl, Nat.le_of_ble_eq_true rfl⟩ hl.1 rfl (Nat.le_of_ble_eq_true rfl) d11_undo_38 (fun H locs hH => ?_)
      refine W.eq (g2 := F0 m 41 ls []) rfl ?_
      refine lv_aload_n hx hb d11_undo_41 rfl (lv_at hl 0 rfl) ?_
      refine gf_11_46 C hH d11_undo_42 ?_
      refine gf_11_110 C hH d11_undo_45 ?_
      exact ce_iretE C (ce_sok aK aV B0) hH e d11_undo_48
    · have e := ce_if1 e hc20
      refine lv_bipush (v := (-5 : Int32)) hx hb d11_undo_23 (by decide) ?_
      exact ce_iretE C (ce_sok aK aV B0) hH e d11_undo_25
  · have e := ce_if1 e hc7
    refine lv_bipush (v := (-2 : Int32)) hx hb d11_undo_10 (by decide) ?_
    exact ce_iretE C (ce_sok aK aV B0) hH e d11_undo_12
abbrev b11_anew : ByteArray := prog_1_method_40_code
def y11_anew : MethodName := ⟨cn_11, "anew", "()I"⟩
theorem d11_anew_0 : decode b11_anew 0 = .ok (.aload_n 0, 1) := by decide +kernel
theorem d11_anew_1 : decode b11_anew 1 = .ok (.getfield 26, 3) := by decide +kernel
theorem d11_anew_4 : decode b11_anew 4 = .ok (.getfield 116, 3) := by decide +kernel
theorem d11_anew_7 : decode b11_anew 7 = .ok (.ifCond .ne 6, 3) := by decide +kernel
theorem d11_anew_10 : decode b11_anew 10 = .ok (.bipush (-2), 2) := by decide +kernel
theorem d11_anew_12 : decode b11_anew 12 = .ok (.ireturn, 1) := by decide +kernel
theorem d11_anew_13 : decode b11_anew 13 = .ok (.aload_n 0, 1) := by decide +kernel
theorem d11_anew_14 : decode b11_anew 14 = .ok (.getfield 46, 3) := by decide +kernel
theorem d11_anew_17 : decode b11_anew 17 = .ok (.getfield 110, 3) := by decide +kernel
theorem d11_anew_20 : decode b11_anew 20 = .ok (.istore_n 1, 1) := by decide +kernel
theorem d11_anew_21 : decode b11_anew 21 = .ok (.iconst 0, 1) := by decide +kernel
theorem d11_anew_22 : decode b11_anew 22 = .ok (.istore_n 2, 1) := by decide +kernel
theorem d11_anew_23 : decode b11_anew 23 = .ok (.iload_n 2, 1) := by decide +kernel
theorem d11_anew_24 : decode b11_anew 24 = .ok (.iload_n 1, 1) := by decide +kernel
theorem d11_anew_25 : decode b11_anew 25 = .ok (.if_icmp .ge 20, 3) := by decide +kernel
theorem d11_anew_28 : decode b11_anew 28 = .ok (.aload_n 0, 1) := by decide +kernel
theorem d11_anew_29 : decode b11_anew 29 = .ok (.getfield 46, 3) := by decide +kernel
theorem d11_anew_32 : decode b11_anew 32 = .ok (.aload_n 0, 1) := by decide +kernel
theorem d11_anew_33 : decode b11_anew 33 = .ok (.getfield 26, 3) := by decide +kernel
theorem d11_anew_36 : decode b11_anew 36 = .ok (.invokevirtual 319, 3) := by decide +kernel
theorem d11_anew_39 : decode b11_anew 39 = .ok (.iinc 2 1, 3) := by decide +kernel
theorem d11_anew_42 : decode b11_anew 42 = .ok (.goto (-19), 3) := by decide +kernel
theorem d11_anew_45 : decode b11_anew 45 = .ok (.aload_n 0, 1) := by decide +kernel
theorem d11_anew_46 : decode b11_anew 46 = .ok (.invokevirtual 113, 3) := by decide +kernel
theorem d11_anew_49 : decode b11_anew 49 = .ok (.iload_n 1, 1) := by decide +kernel
theorem d11_anew_50 : decode b11_anew 50 = .ok (.ireturn, 1) := by decide +kernel
def f11_anew_b23 (F : Nat) (x1 : Int32) (x2 : Int32) (h : Hp) : Option ((Int32 × Hp) ⊕ (Hp)) :=
  if x1 ≤ x2 then
    some (.inr h)
  else
    ce_nm ((h 0 2).toNatClampNeg) (fun k_33 => if ce_isNet k_33 then
      Option.bind (f0_takeBack F k_33 h) (fun o36 =>
        some (.inl (x2 + (1 : Int32), o36)))
    else none)
set_option maxRecDepth 20000 in
theorem l11_anew_23 (C : ce_Cx p s m args c meth b11_anew 3 (some .int) cn_11 D ad cA B0 (ce_St aK aV B0)) (F : Nat) (x1 : Int32)  (r : Int32 × Hp) (g : (Hp) → Option (Int32 × Hp)) (hx : ∀  (h : Hp) (H : Heap) (locs : List Loc) (ls : Array Slot), ce_H D ad cA B0 [] s h H locs → lv_has ls 3 [(0, .ref (ad 0)), (1, .int x1)] → g h = some r → W p l e0 { frames := 6, cells := 0, slots := 0, locals := 141 } s m args below meth c H locs 0 0 (MQ below (ce_Q D ad cA B0 (ce_St aK aV B0) (some (.int r.1)) r.2) args s 0 0 (fun q => B0 ≤ q)) (F0 m 45 ls [])) : ∀ (n : Nat) (x2 : Int32) (h : Hp) (H : Heap) (locs : List Loc) (ls : Array Slot), ce_H D ad cA B0 [] s h H locs → lv_has ls 3 [(0, .ref (ad 0)), (1, .int x1), (2, .int x2)] → Option.bind (ce_it (fun (st : Int32 × Hp) => f11_anew_b23 F x1 st.1 st.2) n (x2, h)) g = some r → W p l e0 { frames := 6, cells := 0, slots := 0, locals := 141 } s m args below meth c H locs 0 0 (MQ below (ce_Q D ad cA B0 (ce_St aK aV B0) (some (.int r.1)) r.2) args s 0 0 (fun q => B0 ≤ q)) (F0 m 23 ls []) := by
  intro n
  induction n with
  | zero =>
    intro x2 h H locs ls hH hl e
    exact absurd e (fun z => by cases z)
  | succ n ih =>
    intro x2 h H locs ls hH hl e
    have hx9 := C.1
    have hb := C.2.1
    have e : Option.bind (f11_anew_b23 F x1 x2 h) _ = some r := ce_it_bd e
    unfold f11_anew_b23 at e
    refine lv_iload_n hx9 hb d11_anew_23 rfl (lv_at hl 2 rfl) ?_
    refine lv_iload_n hx9 hb d11_anew_24 rfl (lv_at hl 1 rfl) ?_
    refine lv_icmp_ge (tgt := 45) hx9 hb d11_anew_25 (by decide) (fun hc25 => ?_) (fun hc25 => ?_)
    · have e := ce_if1 e hc25
      exact hx  h _ _ _ hH (lv_sub hl [0, 1] rfl) e
    · have e := ce_if0 e hc25
      refine lv_aload_n hx9 hb d11_anew_28 rfl (lv_at hl 0 rfl) ?_
      refine gf_11_46 C hH d11_anew_29 ?_
      refine lv_aload_n hx9 hb d11_anew_32 rfl (lv_at hl 0 rfl) ?_
      refine gf_11_26 C hH d11_anew_33 ?_
      obtain ⟨k_33, ek_33, e⟩ := ce_nmE e
      obtain ⟨hk_33, e⟩ := ce_gd e
      rw [← ek_33]
      obtain ⟨o36, eo36, e⟩ := ce_bd e
      refine ce_callV (As := [.ref (ad k_33)]) (rest := []) C (ce_sok aK aV B0) hH (c0_takeBack l D ad cA aK aV B0 C.2.2.2.2.2.2.1 F k_33 hk_33 h o36 eo36) lo_35.1 lo_35.2.choose_spec rfl rfl mc0_takeBack ml_11_319 mi0_takeBack ms0_takeBack mI_0 (n := 1) (by decide) rfl ⟨Nat.le_of_ble_eq_true rfl, Nat.le_of_ble_eq_true rfl⟩ ⟨Nat.le_of_ble_eq_true rfl, Nat.le_of_ble_eq_true rfl⟩ hl.1 rfl (Nat.le_of_ble_eq_true rfl) d11_anew_36 (fun H locs hH => ?_)
      refine W.eq (g2 := F0 m 39 ls []) rfl ?_
      refine lv_iinc (v := x2 + (1 : Int32)) (lv' := [(2, .int (x2 + (1 : Int32))), (0, .ref (ad 0)), (1, .int x1)]) hx9 hb d11_anew_39 hl (k := 2) rfl rfl (by decide) rfl (fun ls hl => ?_)
      refine lv_goto (tgt := 23) hx9 hb d11_anew_42 (by decide) ?_
      exact ih (x2 + (1 : Int32)) o36 _ _ _ hH (lv_sub hl [1, 2, 0] rfl) e
def f11_anew (F : Nat)  (h : Hp) : Option (Int32 × Hp) :=
  ce_nm ((h 0 2).toNatClampNeg) (fun k_1 => if ce_isNet k_1 then
    if (h k_1 0) = 0 then
      some ((-2 : Int32), h)
    else
      Option.bind (ce_it (fun (st : Int32 × Hp) => f11_anew_b23 F (h 35 0) st.1 st.2) F ((0 : Int32), h)) (fun o23 =>
        Option.bind (f11_refresh F  o23) (fun o46 =>
          some (h 35 0, o46)))
  else none)
set_option maxRecDepth 20000 in
theorem c11_anew (l : Launch) (D : va_G) (ad : Nat → Nat) (cA : Nat → ClassId) (aK aV : Nat → Nat) (B0 : Nat) (hA : ce_Ad ad B0) (F : Nat)   (h : Hp) (r : Int32 × Hp) (e : f11_anew F  h = some r) : ce_Ct l D ad cA B0 (ce_St aK aV B0) y11_anew b11_anew 3 (some .int) 6 141 0 0 [.ref (ad 0)] h (some (.int r.1)) r.2 := by
  refine ce_enter hA (by decide) rfl (Nat.le_of_ble_eq_true rfl) (fun p e0 s m below meth c ls C hH hl => ?_)
  have hl : lv_has ls 3 [(0, .ref (ad 0))] := hl
  have hx := C.1
  have hb := C.2.1
  have e : Option.bind _ some = some r := (congrArg (fun z => Option.bind z some) e).trans rfl
  unfold f11_anew at e
  refine lv_aload_n hx hb d11_anew_0 rfl (lv_at hl 0 rfl) ?_
  refine gf_11_26 C hH d11_anew_1 ?_
  obtain ⟨k_1, ek_1, e⟩ := ce_nmE e
  obtain ⟨hk_1, e⟩ := ce_gd e
  rw [← ek_1]
  refine gf_11_116 C hH hk_1 d11_anew_4 ?_
  refine lv_if_ne (tgt := 13) hx hb d11_anew_7 (by decide) (fun hc7 => ?_) (fun hc7 => ?_)
  · have e := ce_if0 e hc7
    refine lv_aload_n hx hb d11_anew_13 rfl (lv_at hl 0 rfl) ?_
    refine gf_11_46 C hH d11_anew_14 ?_
    refine gf_11_110 C hH d11_anew_17 ?_
    refine lv_istore_n (lv' := [(1, .int (h 35 0)), (0, .ref (ad 0))]) hx hb d11_anew_20 rfl hl (by decide) rfl (fun ls hl => ?_)
    refine lv_iconst (v := (0 : Int32)) hx hb d11_anew_21 (by decide) ?_
    refine lv_istore_n (lv' := [(2, .int (0 : Int32)), (1, .int (h 35 0)), (0, .ref (ad 0))]) hx hb d11_anew_22 rfl hl (by decide) rfl (fun ls hl => ?_)
    refine l11_anew_23 C F (h 35 0)  r _ (fun  h_23 H locs ls hH hl e => ?_) F (0 : Int32) h _ _ _ hH (lv_sub hl [2, 1, 0] rfl) (ce_as e)
    try dsimp only at e
    refine lv_aload_n hx hb d11_anew_45 rfl (lv_at hl 0 rfl) ?_
    obtain ⟨o46, eo46, e⟩ := ce_bd e
    refine ce_callV (As := []) (rest := []) C (ce_sok aK aV B0) hH (c11_refresh l D ad cA aK aV B0 C.2.2.2.2.2.2.1 F   h_23 o46 eo46) lo_0.1 lo_0.2.choose_spec rfl rfl mc11_refresh ml_11_113 mi11_refresh ms11_refresh mI_11 (n := 0) (by decide) rfl ⟨Nat.le_of_ble_eq_true rfl, Nat.le_of_ble_eq_true rfl⟩ ⟨Nat.le_of_ble_eq_true rfl, Nat.le_of_ble_eq_true rfl⟩ hl.1 rfl (Nat.le_of_ble_eq_true rfl) d11_anew_46 (fun H locs hH => ?_)
    refine W.eq (g2 := F0 m 49 ls []) rfl ?_
    refine lv_iload_n hx hb d11_anew_49 rfl (lv_at hl 1 rfl) ?_
    exact ce_iretE C (ce_sok aK aV B0) hH e d11_anew_50
  · have e := ce_if1 e hc7
    refine lv_bipush (v := (-2 : Int32)) hx hb d11_anew_10 (by decide) ?_
    exact ce_iretE C (ce_sok aK aV B0) hH e d11_anew_12
abbrev b12_in : ByteArray := prog_14_method_1_code
def y12_in : MethodName := ⟨cn_12, "in", "(JJJ)Z"⟩
theorem d12_in_0 : decode b12_in 0 = .ok (.lload_n 0, 1) := by decide +kernel
theorem d12_in_1 : decode b12_in 1 = .ok (.lload_n 2, 1) := by decide +kernel
theorem d12_in_2 : decode b12_in 2 = .ok (.lcmp, 1) := by decide +kernel
theorem d12_in_3 : decode b12_in 3 = .ok (.ifCond .lt 14, 3) := by decide +kernel
theorem d12_in_6 : decode b12_in 6 = .ok (.lload_n 0, 1) := by decide +kernel
theorem d12_in_7 : decode b12_in 7 = .ok (.lload 4, 2) := by decide +kernel
theorem d12_in_9 : decode b12_in 9 = .ok (.lcmp, 1) := by decide +kernel
theorem d12_in_10 : decode b12_in 10 = .ok (.ifCond .gt 7, 3) := by decide +kernel
theorem d12_in_13 : decode b12_in 13 = .ok (.iconst 1, 1) := by decide +kernel
theorem d12_in_14 : decode b12_in 14 = .ok (.goto 4, 3) := by decide +kernel
theorem d12_in_17 : decode b12_in 17 = .ok (.iconst 0, 1) := by decide +kernel
theorem d12_in_18 : decode b12_in 18 = .ok (.ireturn, 1) := by decide +kernel
def f12_in (F : Nat) (x0 : Int64) (x2 : Int64) (x4 : Int64) (h : Hp) : Option (Int32 × Hp) :=
  if (lg_cmp x0 x2) < 0 then
    some ((0 : Int32), h)
  else
    if 0 < (lg_cmp x0 x4) then
      some ((0 : Int32), h)
    else
      some ((1 : Int32), h)
set_option maxRecDepth 20000 in
theorem c12_in (l : Launch) (D : va_G) (ad : Nat → Nat) (cA : Nat → ClassId) (aK aV : Nat → Nat) (B0 : Nat) (hA : ce_Ad ad B0) (F : Nat) (x0 : Int64) (x2 : Int64) (x4 : Int64)  (h : Hp) (r : Int32 × Hp) (e : f12_in F x0 x2 x4 h = some r) : ce_Ct l D ad cA B0 (ce_St aK aV B0) y12_in b12_in 6 (some .boolean) 0 0 0 0 [.long x0, .long x2, .long x4] h (some (.int r.1)) r.2 := by
  refine ce_enter hA (by decide) rfl (Nat.le_of_ble_eq_true rfl) (fun p e0 s m below meth c ls C hH hl => ?_)
  have hl : lv_has ls 6 [(0, .long x0), (2, .long x2), (4, .long x4)] := hl
  have hx := C.1
  have hb := C.2.1
  have e : Option.bind _ some = some r := (congrArg (fun z => Option.bind z some) e).trans rfl
  unfold f12_in at e
  refine lv_lload_n hx hb d12_in_0 rfl (lv_at hl 0 rfl) ?_
  refine lv_lload_n hx hb d12_in_1 rfl (lv_at hl 1 rfl) ?_
  refine W.lcmp hx hb d12_in_2 ?_
  refine lv_if_lt (tgt := 17) hx hb d12_in_3 (by decide) (fun hc3 => ?_) (fun hc3 => ?_)
  · have e := ce_if1 e hc3
    refine lv_iconst (v := (0 : Int32)) hx hb d12_in_17 (by decide) ?_
    exact ce_zretE C (ce_sok aK aV B0) hH (Or.inl rfl) e d12_in_18
  · have e := ce_if0 e hc3
    refine lv_lload_n hx hb d12_in_6 rfl (lv_at hl 0 rfl) ?_
    refine lv_lload hx hb d12_in_7 (lv_at hl 2 rfl) ?_
    refine W.lcmp hx hb d12_in_9 ?_
    refine lv_if_gt (tgt := 17) hx hb d12_in_10 (by decide) (fun hc10 => ?_) (fun hc10 => ?_)
    · have e := ce_if1 e hc10
      refine lv_iconst (v := (0 : Int32)) hx hb d12_in_17 (by decide) ?_
      exact ce_zretE C (ce_sok aK aV B0) hH (Or.inl rfl) e d12_in_18
    · have e := ce_if0 e hc10
      refine lv_iconst (v := (1 : Int32)) hx hb d12_in_13 (by decide) ?_
      refine lv_goto (tgt := 18) hx hb d12_in_14 (by decide) ?_
      exact ce_zretE C (ce_sok aK aV B0) hH (Or.inr rfl) e d12_in_18
abbrev b12_has : ByteArray := prog_14_method_2_code
def y12_has : MethodName := ⟨cn_12, "has", "(II)Z"⟩
theorem d12_has_0 : decode b12_has 0 = .ok (.iload_n 0, 1) := by decide +kernel
theorem d12_has_1 : decode b12_has 1 = .ok (.iload_n 1, 1) := by decide +kernel
theorem d12_has_2 : decode b12_has 2 = .ok (.ishr, 1) := by decide +kernel
theorem d12_has_3 : decode b12_has 3 = .ok (.iconst 1, 1) := by decide +kernel
theorem d12_has_4 : decode b12_has 4 = .ok (.iand, 1) := by decide +kernel
theorem d12_has_5 : decode b12_has 5 = .ok (.iconst 1, 1) := by decide +kernel
theorem d12_has_6 : decode b12_has 6 = .ok (.if_icmp .ne 7, 3) := by decide +kernel
theorem d12_has_9 : decode b12_has 9 = .ok (.iconst 1, 1) := by decide +kernel
theorem d12_has_10 : decode b12_has 10 = .ok (.goto 4, 3) := by decide +kernel
theorem d12_has_13 : decode b12_has 13 = .ok (.iconst 0, 1) := by decide +kernel
theorem d12_has_14 : decode b12_has 14 = .ok (.ireturn, 1) := by decide +kernel
def f12_has (F : Nat) (x0 : Int32) (x1 : Int32) (h : Hp) : Option (Int32 × Hp) :=
  if ((x0 >>> (x1 &&& 31)) &&& (1 : Int32)) = (1 : Int32) then
    some ((1 : Int32), h)
  else
    some ((0 : Int32), h)
set_option maxRecDepth 20000 in
theorem c12_has (l : Launch) (D : va_G) (ad : Nat → Nat) (cA : Nat → ClassId) (aK aV : Nat → Nat) (B0 : Nat) (hA : ce_Ad ad B0) (F : Nat) (x0 : Int32) (x1 : Int32)  (h : Hp) (r : Int32 × Hp) (e : f12_has F x0 x1 h = some r) : ce_Ct l D ad cA B0 (ce_St aK aV B0) y12_has b12_has 2 (some .boolean) 0 0 0 0 [.int x0, .int x1] h (some (.int r.1)) r.2 := by
  refine ce_enter hA (by decide) rfl (Nat.le_of_ble_eq_true rfl) (fun p e0 s m below meth c ls C hH hl => ?_)
  have hl : lv_has ls 2 [(0, .int x0), (1, .int x1)] := hl
  have hx := C.1
  have hb := C.2.1
  have e : Option.bind _ some = some r := (congrArg (fun z => Option.bind z some) e).trans rfl
  unfold f12_has at e
  refine lv_iload_n hx hb d12_has_0 rfl (lv_at hl 0 rfl) ?_
  refine lv_iload_n hx hb d12_has_1 rfl (lv_at hl 1 rfl) ?_
  refine lv_ishr hx hb d12_has_2 ?_
  refine lv_iconst (v := (1 : Int32)) hx hb d12_has_3 (by decide) ?_
  refine lv_iand hx hb d12_has_4 ?_
  refine lv_iconst (v := (1 : Int32)) hx hb d12_has_5 (by decide) ?_
  refine lv_icmp_ne (tgt := 13) hx hb d12_has_6 (by decide) (fun hc6 => ?_) (fun hc6 => ?_)
  · have e := ce_if0 e hc6
    refine lv_iconst (v := (0 : Int32)) hx hb d12_has_13 (by decide) ?_
    exact ce_zretE C (ce_sok aK aV B0) hH (Or.inl rfl) e d12_has_14
  · have e := ce_if1 e hc6
    refine lv_iconst (v := (1 : Int32)) hx hb d12_has_9 (by decide) ?_
    refine lv_goto (tgt := 14) hx hb d12_has_10 (by decide) ?_
    exact ce_zretE C (ce_sok aK aV B0) hH (Or.inr rfl) e d12_has_14
abbrev b12_end : ByteArray := prog_14_method_5_code
def y12_end : MethodName := ⟨cn_12, "end", "(I)I"⟩
theorem d12_end_0 : decode b12_end 0 = .ok (.iload_n 1, 1) := by decide +kernel
theorem d12_end_1 : decode b12_end 1 = .ok (.i2l, 1) := by decide +kernel
theorem d12_end_2 : decode b12_end 2 = .ok (.lconst 0, 1) := by decide +kernel
theorem d12_end_3 : decode b12_end 3 = .ok (.aload_n 0, 1) := by decide +kernel
theorem d12_end_4 : decode b12_end 4 = .ok (.getfield 95, 3) := by decide +kernel
theorem d12_end_7 : decode b12_end 7 = .ok (.i2l, 1) := by decide +kernel
theorem d12_end_8 : decode b12_end 8 = .ok (.invokestatic 98, 3) := by decide +kernel
theorem d12_end_11 : decode b12_end 11 = .ok (.ifCond .ne 5, 3) := by decide +kernel
theorem d12_end_14 : decode b12_end 14 = .ok (.iconst (-1), 1) := by decide +kernel
theorem d12_end_15 : decode b12_end 15 = .ok (.ireturn, 1) := by decide +kernel
theorem d12_end_16 : decode b12_end 16 = .ok (.aload_n 0, 1) := by decide +kernel
theorem d12_end_17 : decode b12_end 17 = .ok (.iload_n 1, 1) := by decide +kernel
theorem d12_end_18 : decode b12_end 18 = .ok (.putfield 95, 3) := by decide +kernel
theorem d12_end_21 : decode b12_end 21 = .ok (.iload_n 1, 1) := by decide +kernel
theorem d12_end_22 : decode b12_end 22 = .ok (.ireturn, 1) := by decide +kernel
theorem fl_12_95 : Cond.fieldLink cn_12 95 (ft_12 4).1 (ft_12 4).2.1 (ft_12 4).2.2.1 ∈ ce_cm := ce_cm_of (List.mem_of_getElem? (i := 1125) (by decide +kernel)) (by decide +kernel)
theorem gf_12_95 (C : ce_Cx p s m args c meth cc nL ret cn_12 D ad cA B0 (ce_St aK aV B0)) (hH : ce_H D ad cA B0 X s h H locs) (hdg : decode cc pc = .ok (.getfield 95, 3)) (kk : W p l e0 R s m args below meth c H locs cells slots Q (F0 m (pc + 3) ls (.int (h 68 4) :: rest))) : W p l e0 R s m args below meth c H locs cells slots Q (F0 m pc ls (.ref (ad 68) :: rest)) := by
  exact ce_get C hH (k := 68) (ci := 12) (j := 4) (N := 43) (sj := none) (by decide) rfl rfl fw_12 (by decide) fl_12_95 rfl hdg kk
theorem pf_12_95 (C : ce_Cx p s m args c meth cc nL ret cn_12 D ad cA B0 (ce_St aK aV B0)) (hH : ce_H D ad cA B0 X s h H locs) {x : Int32} (hdg : decode cc pc = .ok (.putfield 95, 3)) (kk : ∀ (H1 : Heap) (locs1 : List Loc), ce_H D ad cA B0 X s (hp_up h 68 4 x) H1 locs1 → W p l e0 R s m args below meth c H1 locs1 cells slots Q (F0 m (pc + 3) ls rest)) : W p l e0 R s m args below meth c H locs cells slots Q (F0 m pc ls (.int x :: .ref (ad 68) :: rest)) := by
  exact ce_put C hH (k := 68) (ci := 12) (j := 4) (N := 43) (fy := fy_12) (sj := none) x (by decide) rfl rfl fw_12 fo_12 fn_12 (by decide) fl_12_95 rfl rfl (v := .int x) (by simp [ce_slot, upd]) rfl rfl hdg kk
theorem mc12_in : Cond.code y12_in b12_in 6 (some .boolean) ∈ ce_cm := ce_cm_of (List.mem_of_getElem? (i := 1261) (by decide +kernel)) (by decide +kernel)
theorem ml_12_98 : Cond.methodLink cn_12 98 y12_in ∈ ce_cm := ce_cm_of (List.mem_of_getElem? (i := 1259) (by decide +kernel)) (by decide +kernel)
theorem mt12_in : Cond.static y12_in ∈ ce_cm := ce_cm_of (List.mem_of_getElem? (i := 1260) (by decide +kernel)) (by decide +kernel)
theorem mI_12 : Cond.initialized cn_12 ∈ ce_cm := ce_cm_of (List.mem_of_getElem? (i := 103) (by decide +kernel)) (by decide +kernel)
def f12_end (F : Nat) (x1 : Int32) (h : Hp) : Option (Int32 × Hp) :=
  Option.bind (f12_in F ((x1).toInt64) (0 : Int64) (((h 68 4)).toInt64) h) (fun o8 =>
    if o8.1 = 0 then
      some ((-1 : Int32), o8.2)
    else
      ce_nm (hp_up o8.2 68 4 x1) (fun h_18 =>
        some (x1, h_18)))
set_option maxRecDepth 20000 in
theorem c12_end (l : Launch) (D : va_G) (ad : Nat → Nat) (cA : Nat → ClassId) (aK aV : Nat → Nat) (B0 : Nat) (hA : ce_Ad ad B0) (F : Nat) (x1 : Int32)  (h : Hp) (r : Int32 × Hp) (e : f12_end F x1 h = some r) : ce_Ct l D ad cA B0 (ce_St aK aV B0) y12_end b12_end 2 (some .int) 1 25 0 0 [.ref (ad 68), .int x1] h (some (.int r.1)) r.2 := by
  refine ce_enter hA (by decide) rfl (Nat.le_of_ble_eq_true rfl) (fun p e0 s m below meth c ls C hH hl => ?_)
  have hl : lv_has ls 2 [(0, .ref (ad 68)), (1, .int x1)] := hl
  have hx := C.1
  have hb := C.2.1
  have e : Option.bind _ some = some r := (congrArg (fun z => Option.bind z some) e).trans rfl
  unfold f12_end at e
  refine lv_iload_n hx hb d12_end_0 rfl (lv_at hl 1 rfl) ?_
  refine lv_i2l (v := (x1).toInt64) hx hb d12_end_1 rfl ?_
  refine lv_lconst (v := (0 : Int64)) hx hb d12_end_2 (by decide) ?_
  refine lv_aload_n hx hb d12_end_3 rfl (lv_at hl 0 rfl) ?_
  refine gf_12_95 C hH d12_end_4 ?_
  refine lv_i2l (v := ((h 68 4)).toInt64) hx hb d12_end_7 rfl ?_
  obtain ⟨o8, eo8, e⟩ := ce_bd e
  refine ce_callS (As := [.long ((x1).toInt64), .long (0 : Int64), .long (((h 68 4)).toInt64)]) (rest := []) C (ce_sok aK aV B0) hH (c12_in l D ad cA aK aV B0 C.2.2.2.2.2.2.1 F ((x1).toInt64) (0 : Int64) (((h 68 4)).toInt64)  h o8 eo8) mc12_in ml_12_98 mt12_in mI_12 (n := 3) (by decide) rfl ⟨Nat.le_of_ble_eq_true rfl, Nat.le_of_ble_eq_true rfl⟩ ⟨Nat.le_of_ble_eq_true rfl, Nat.le_of_ble_eq_true rfl⟩ hl.1 rfl (Nat.le_of_ble_eq_true rfl) d12_end_8 (fun H locs hH => ?_)
  refine W.eq (g2 := F0 m 11 ls [.int o8.1]) rfl ?_
  refine lv_if_ne (tgt := 16) hx hb d12_end_11 (by decide) (fun hc11 => ?_) (fun hc11 => ?_)
  · have e := ce_if0 e hc11
    refine lv_aload_n hx hb d12_end_16 rfl (lv_at hl 0 rfl) ?_
    refine lv_iload_n hx hb d12_end_17 rfl (lv_at hl 1 rfl) ?_
    refine pf_12_95 C hH d12_end_18 (fun H locs hH => ?_)
    obtain ⟨h_18, eh_18, e⟩ := ce_nmE e
    rw [← eh_18] at hH
    refine lv_iload_n hx hb d12_end_21 rfl (lv_at hl 1 rfl) ?_
    exact ce_iretE C (ce_sok aK aV B0) hH e d12_end_22
  · have e := ce_if1 e hc11
    refine lv_iconst (v := (-1 : Int32)) hx hb d12_end_14 (by decide) ?_
    exact ce_iretE C (ce_sok aK aV B0) hH e d12_end_15
end C10
