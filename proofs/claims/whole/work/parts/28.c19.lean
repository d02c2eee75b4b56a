-- C19: functions and contracts, written by wip/whole/gen (mgen.py, walk.py, walk2.py) out of the bytecode
section C19
variable {p : Program} {l : Launch} {e0 : Env} {R : Room} {s : State} {m : MethodId} {args : Array Value} {below : List Frame} {meth : Method} {c : Code} {H : Heap} {locs : List Loc} {cells slots : Nat} {Q : State → Prop}
variable {cc : ByteArray} {pc nL : Nat} {ret : Option FieldType} {ls : Array Slot} {rest : List Value} {D : va_G} {ad : Nat → Nat} {cA : Nat → ClassId} {B0 : Nat} {X : va_W} {h : Hp} {aK aV : Nat → Nat}
abbrev b12_winsOf : ByteArray := prog_14_method_86_code
def y12_winsOf : MethodName := ⟨cn_12, "winsOf", "(I)V"⟩
theorem d12_winsOf_0 : decode b12_winsOf 0 = .ok (.iconst 0, 1) := by decide +kernel
theorem d12_winsOf_1 : decode b12_winsOf 1 = .ok (.istore_n 2, 1) := by decide +kernel
theorem d12_winsOf_2 : decode b12_winsOf 2 = .ok (.iload_n 1, 1) := by decide +kernel
theorem d12_winsOf_3 : decode b12_winsOf 3 = .ok (.iload_n 2, 1) := by decide +kernel
theorem d12_winsOf_4 : decode b12_winsOf 4 = .ok (.invokestatic 349, 3) := by decide +kernel
theorem d12_winsOf_7 : decode b12_winsOf 7 = .ok (.ifCond .ne 9, 3) := by decide +kernel
theorem d12_winsOf_10 : decode b12_winsOf 10 = .ok (.iinc 2 1, 3) := by decide +kernel
theorem d12_winsOf_13 : decode b12_winsOf 13 = .ok (.goto (-11), 3) := by decide +kernel
theorem d12_winsOf_16 : decode b12_winsOf 16 = .ok (.aload_n 0, 1) := by decide +kernel
theorem d12_winsOf_17 : decode b12_winsOf 17 = .ok (.iload_n 2, 1) := by decide +kernel
theorem d12_winsOf_18 : decode b12_winsOf 18 = .ok (.invokevirtual 270, 3) := by decide +kernel
theorem d12_winsOf_21 : decode b12_winsOf 21 = .ok (.istore_n 3, 1) := by decide +kernel
theorem d12_winsOf_22 : decode b12_winsOf 22 = .ok (.aload_n 0, 1) := by decide +kernel
theorem d12_winsOf_23 : decode b12_winsOf 23 = .ok (.iload_n 3, 1) := by decide +kernel
theorem d12_winsOf_24 : decode b12_winsOf 24 = .ok (.iload_n 1, 1) := by decide +kernel
theorem d12_winsOf_25 : decode b12_winsOf 25 = .ok (.invokevirtual 352, 3) := by decide +kernel
theorem d12_winsOf_28 : decode b12_winsOf 28 = .ok (.aload_n 0, 1) := by decide +kernel
theorem d12_winsOf_29 : decode b12_winsOf 29 = .ok (.aload_n 0, 1) := by decide +kernel
theorem d12_winsOf_30 : decode b12_winsOf 30 = .ok (.getfield 89, 3) := by decide +kernel
theorem d12_winsOf_33 : decode b12_winsOf 33 = .ok (.iload_n 3, 1) := by decide +kernel
theorem d12_winsOf_34 : decode b12_winsOf 34 = .ok (.iaload, 1) := by decide +kernel
theorem d12_winsOf_35 : decode b12_winsOf 35 = .ok (.putfield 361, 3) := by decide +kernel
theorem d12_winsOf_38 : decode b12_winsOf 38 = .ok (.aload_n 0, 1) := by decide +kernel
theorem d12_winsOf_39 : decode b12_winsOf 39 = .ok (.iconst 2, 1) := by decide +kernel
theorem d12_winsOf_40 : decode b12_winsOf 40 = .ok (.aload_n 0, 1) := by decide +kernel
theorem d12_winsOf_41 : decode b12_winsOf 41 = .ok (.getfield 92, 3) := by decide +kernel
theorem d12_winsOf_44 : decode b12_winsOf 44 = .ok (.iload_n 3, 1) := by decide +kernel
theorem d12_winsOf_45 : decode b12_winsOf 45 = .ok (.iaload, 1) := by decide +kernel
theorem d12_winsOf_46 : decode b12_winsOf 46 = .ok (.imul, 1) := by decide +kernel
theorem d12_winsOf_47 : decode b12_winsOf 47 = .ok (.putfield 364, 3) := by decide +kernel
theorem d12_winsOf_50 : decode b12_winsOf 50 = .ok (.return_, 1) := by decide +kernel
theorem fl_12_361 : Cond.fieldLink cn_12 361 (ft_12 41).1 (ft_12 41).2.1 (ft_12 41).2.2.1 ∈ ce_cm := ce_cm_of (List.mem_of_getElem? (i := 1162) (by decide +kernel)) (by decide +kernel)
theorem gf_12_361 (C : ce_Cx p s m args c meth cc nL ret cn_12 D ad cA B0 (ce_St aK aV B0)) (hH : ce_H D ad cA B0 X s h H locs) (hdg : decode cc pc = .ok (.getfield 361, 3)) (kk : W p l e0 R s m args below meth c H locs cells slots Q (F0 m (pc + 3) ls (.int (h 68 41) :: rest))) : W p l e0 R s m args below meth c H locs cells slots Q (F0 m pc ls (.ref (ad 68) :: rest)) := by
  exact ce_get C hH (k := 68) (ci := 12) (j := 41) (N := 43) (sj := none) (by decide) rfl rfl fw_12 (by decide) fl_12_361 rfl hdg kk
theorem pf_12_361 (C : ce_Cx p s m args c meth cc nL ret cn_12 D ad cA B0 (ce_St aK aV B0)) (hH : ce_H D ad cA B0 X s h H locs) {x : Int32} (hdg : decode cc pc = .ok (.putfield 361, 3)) (kk : ∀ (H1 : Heap) (locs1 : List Loc), ce_H D ad cA B0 X s (hp_up h 68 41 x) H1 locs1 → W p l e0 R s m args below meth c H1 locs1 cells slots Q (F0 m (pc + 3) ls rest)) : W p l e0 R s m args below meth c H locs cells slots Q (F0 m pc ls (.int x :: .ref (ad 68) :: rest)) := by
  exact ce_put C hH (k := 68) (ci := 12) (j := 41) (N := 43) (fy := fy_12) (sj := none) x (by decide) rfl rfl fw_12 fo_12 fn_12 (by decide) fl_12_361 rfl rfl (v := .int x) (by simp [ce_slot, upd]) rfl rfl hdg kk
theorem fl_12_364 : Cond.fieldLink cn_12 364 (ft_12 42).1 (ft_12 42).2.1 (ft_12 42).2.2.1 ∈ ce_cm := ce_cm_of (List.mem_of_getElem? (i := 1163) (by decide +kernel)) (by decide +kernel)
theorem gf_12_364 (C : ce_Cx p s m args c meth cc nL ret cn_12 D ad cA B0 (ce_St aK aV B0)) (hH : ce_H D ad cA B0 X s h H locs) (hdg : decode cc pc = .ok (.getfield 364, 3)) (kk : W p l e0 R s m args below meth c H locs cells slots Q (F0 m (pc + 3) ls (.int (h 68 42) :: rest))) : W p l e0 R s m args below meth c H locs cells slots Q (F0 m pc ls (.ref (ad 68) :: rest)) := by
  exact ce_get C hH (k := 68) (ci := 12) (j := 42) (N := 43) (sj := none) (by decide) rfl rfl fw_12 (by decide) fl_12_364 rfl hdg kk
theorem pf_12_364 (C : ce_Cx p s m args c meth cc nL ret cn_12 D ad cA B0 (ce_St aK aV B0)) (hH : ce_H D ad cA B0 X s h H locs) {x : Int32} (hdg : decode cc pc = .ok (.putfield 364, 3)) (kk : ∀ (H1 : Heap) (locs1 : List Loc), ce_H D ad cA B0 X s (hp_up h 68 42 x) H1 locs1 → W p l e0 R s m args below meth c H1 locs1 cells slots Q (F0 m (pc + 3) ls rest)) : W p l e0 R s m args below meth c H locs cells slots Q (F0 m pc ls (.int x :: .ref (ad 68) :: rest)) := by
  exact ce_put C hH (k := 68) (ci := 12) (j := 42) (N := 43) (fy := fy_12) (sj := none) x (by decide) rfl rfl fw_12 fo_12 fn_12 (by decide) fl_12_364 rfl rfl (v := .int x) (by simp [ce_slot, upd]) rfl rfl hdg kk
def f12_winsOf_b2 (F : Nat) (x1 : Int32) (x2 : Int32) (h : Hp) : Option ((Int32 × Hp) ⊕ (Int32 × Hp)) :=
  Option.bind (f12_has F x1 x2 h) (fun o4 =>
    if o4.1 = 0 then
      some (.inl (x2 + (1 : Int32), o4.2))
    else
      some (.inr (x2, o4.2)))
set_option maxRecDepth 20000 in
theorem l12_winsOf_2 (C : ce_Cx p s m args c meth b12_winsOf 4 none cn_12 D ad cA B0 (ce_St aK aV B0)) (F : Nat) (x1 : Int32)  (r : Hp) (g : (Int32 × Hp) → Option (Hp)) (hx : ∀ (x2 : Int32) (h : Hp) (H : Heap) (locs : List Loc) (ls : Array Slot), ce_H D ad cA B0 [] s h H locs → lv_has ls 4 [(0, .ref (ad 68)), (1, .int x1), (2, .int x2)] → g (x2, h) = some r → W p l e0 { frames := 14, cells := 0, slots := 0, locals := 368 } s m args below meth c H locs 0 0 (MQ below (ce_Q D ad cA B0 (ce_St aK aV B0) none r) args s 0 0 (fun q => B0 ≤ q)) (F0 m 16 ls [])) : ∀ (n : Nat) (x2 : Int32) (h : Hp) (H : Heap) (locs : List Loc) (ls : Array Slot), ce_H D ad cA B0 [] s h H locs → lv_has ls 4 [(0, .ref (ad 68)), (1, .int x1), (2, .int x2)] → Option.bind (ce_it (fun (st : Int32 × Hp) => f12_winsOf_b2 F x1 st.1 st.2) n (x2, h)) g = some r → W p l e0 { frames := 14, cells := 0, slots := 0, locals := 368 } s m args below meth c H locs 0 0 (MQ below (ce_Q D ad cA B0 (ce_St aK aV B0) none r) args s 0 0 (fun q => B0 ≤ q)) (F0 m 2 ls []) := by
  intro n
  induction n with
  | zero =>
    intro x2 h H locs ls hH hl e
    exact absurd e (fun z => by cases z)
  | succ n ih =>
    intro x2 h H locs ls hH hl e
    have hx9 := C.1
    have hb := C.2.1
    have e : Option.bind (f12_winsOf_b2 F x1 x2 h) _ = some r := ce_it_bd e
    unfold f12_winsOf_b2 at e
    refine lv_iload_n hx9 hb d12_winsOf_2 rfl (lv_at hl 1 rfl) ?_
    refine lv_iload_n hx9 hb d12_winsOf_3 rfl (lv_at hl 2 rfl) ?_
    obtain ⟨o4, eo4, e⟩ := ce_bd e
    refine ce_callS (As := [.int x1, .int x2]) (rest := []) C (ce_sok aK aV B0) hH (c12_has l D ad cA aK aV B0 C.2.2.2.2.2.2.1 F x1 x2  h o4 eo4) mc12_has ml_12_349 mt12_has mI_12 (n := 2) (by decide) rfl ⟨Nat.le_of_ble_eq_true rfl, Nat.le_of_ble_eq_true rfl⟩ ⟨Nat.le_of_ble_eq_true rfl, Nat.le_of_ble_eq_true rfl⟩ hl.1 rfl (Nat.le_of_ble_eq_true rfl) d12_winsOf_4 (fun H locs hH => ?_)
    refine W.eq (g2 := F0 m 7 ls [.int o4.1]) rfl ?_
    refine lv_if_ne (tgt := 16) hx9 hb d12_winsOf_7 (by decide) (fun hc7 => ?_) (fun hc7 => ?_)
    · have e := ce_if0 e hc7
      exact hx x2 o4.2 _ _ _ hH (lv_sub hl [0, 1, 2] rfl) e
    · have e := ce_if1 e hc7
      refine lv_iinc (v := x2 + (1 : Int32)) (lv' := [(2, .int (x2 + (1 : Int32))), (0, .ref (ad 68)), (1, .int x1)]) hx9 hb d12_winsOf_10 hl (k := 2) rfl rfl (by decide) rfl (fun ls hl => ?_)
      refine lv_goto (tgt := 2) hx9 hb d12_winsOf_13 (by decide) ?_
      exact ih (x2 + (1 : Int32)) o4.2 _ _ _ hH (lv_sub hl [1, 2, 0] rfl) e
def f12_winsOf (F : Nat) (x1 : Int32) (h : Hp) : Option (Hp) :=
  Option.bind (ce_it (fun (st : Int32 × Hp) => f12_winsOf_b2 F x1 st.1 st.2) F ((0 : Int32), h)) (fun o2 =>
    Option.bind (f12_rootOf F o2.1 o2.2) (fun o18 =>
      Option.bind (f12_asks F 12 o18.1 x1 o18.2) (fun o25 =>
        if ce_in o18.1 10 = true then
          ce_nm (hp_up o25 68 41 (o25 94 (o18.1).toNatClampNeg)) (fun h_35 =>
            if ce_in o18.1 10 = true then
              ce_nm (hp_up h_35 68 42 ((2 : Int32) * (h_35 95 (o18.1).toNatClampNeg))) (fun h_47 =>
                some h_47)
            else none)
        else none)))
set_option maxRecDepth 20000 in
theorem c12_winsOf (l : Launch) (D : va_G) (ad : Nat → Nat) (cA : Nat → ClassId) (aK aV : Nat → Nat) (B0 : Nat) (hA : ce_Ad ad B0) (F : Nat) (x1 : Int32)  (h : Hp) (r : Hp) (e : f12_winsOf F x1 h = some r) : ce_Ct l D ad cA B0 (ce_St aK aV B0) y12_winsOf b12_winsOf 4 none 14 368 0 0 [.ref (ad 68), .int x1] h none r := by
  refine ce_enter hA (by decide) rfl (Nat.le_of_ble_eq_true rfl) (fun p e0 s m below meth c ls C hH hl => ?_)
  have hl : lv_has ls 4 [(0, .ref (ad 68)), (1, .int x1)] := hl
  have hx := C.1
  have hb := C.2.1
  have e : Option.bind _ some = some r := (congrArg (fun z => Option.bind z some) e).trans rfl
  unfold f12_winsOf at e
  refine lv_iconst (v := (0 : Int32)) hx hb d12_winsOf_0 (by decide) ?_
  refine lv_istore_n (lv' := [(2, .int (0 : Int32)), (0, .ref (ad 68)), (1, .int x1)]) hx hb d12_winsOf_1 rfl hl (by decide) rfl (fun ls hl => ?_)
  refine l12_winsOf_2 C F x1  r _ (fun y2_2 h_2 H locs ls hH hl e => ?_) F (0 : Int32) h _ _ _ hH (lv_sub hl [1, 2, 0] rfl) (ce_as e)
  try dsimp only at e
  refine lv_aload_n hx hb d12_winsOf_16 rfl (lv_at hl 0 rfl) ?_
  refine lv_iload_n hx hb d12_winsOf_17 rfl (lv_at hl 2 rfl) ?_
  obtain ⟨o18, eo18, e⟩ := ce_bd e
  refine ce_callV (As := [.int y2_2]) (rest := []) C (ce_sok aK aV B0) hH (c12_rootOf l D ad cA aK aV B0 C.2.2.2.2.2.2.1 F y2_2  h_2 o18 eo18) lo_68.1 lo_68.2.choose_spec rfl rfl mc12_rootOf ml_12_270 mi12_rootOf ms12_rootOf mI_12 (n := 1) (by decide) rfl ⟨Nat.le_of_ble_eq_true rfl, Nat.le_of_ble_eq_true rfl⟩ ⟨Nat.le_of_ble_eq_true rfl, Nat.le_of_ble_eq_true rfl⟩ hl.1 rfl (Nat.le_of_ble_eq_true rfl) d12_winsOf_18 (fun H locs hH => ?_)
  refine W.eq (g2 := F0 m 21 ls [.int o18.1]) rfl ?_
  refine lv_istore_n (lv' := [(3, .int o18.1), (0, .ref (ad 68)), (1, .int x1), (2, .int y2_2)]) hx hb d12_winsOf_21 rfl hl (by decide) rfl (fun ls hl => ?_)
  refine lv_aload_n hx hb d12_winsOf_22 rfl (lv_at hl 1 rfl) ?_
  refine lv_iload_n hx hb d12_winsOf_23 rfl (lv_at hl 0 rfl) ?_
  refine lv_iload_n hx hb d12_winsOf_24 rfl (lv_at hl 2 rfl) ?_
  obtain ⟨o25, eo25, e⟩ := ce_bd e
  refine ce_callV (As := [.int o18.1, .int x1]) (rest := []) C (ce_sok aK aV B0) hH (c12_asks l D ad cA aK aV B0 C.2.2.2.2.2.2.1 F 12 o18.1 x1  o18.2 o25 eo25) lo_68.1 lo_68.2.choose_spec rfl rfl mc12_asks ml_12_352 mi12_asks ms12_asks mI_12 (n := 2) (by decide) rfl ⟨Nat.le_of_ble_eq_true rfl, Nat.le_of_ble_eq_true rfl⟩ ⟨Nat.le_of_ble_eq_true rfl, Nat.le_of_ble_eq_true rfl⟩ hl.1 rfl (Nat.le_of_ble_eq_true rfl) d12_winsOf_25 (fun H locs hH => ?_)
  refine W.eq (g2 := F0 m 28 ls []) rfl ?_
  refine lv_aload_n hx hb d12_winsOf_28 rfl (lv_at hl 1 rfl) ?_
  refine lv_aload_n hx hb d12_winsOf_29 rfl (lv_at hl 1 rfl) ?_
  refine gf_12_89 C hH d12_winsOf_30 ?_
  refine lv_iload_n hx hb d12_winsOf_33 rfl (lv_at hl 0 rfl) ?_
  obtain ⟨hi34, e⟩ := ce_gd e
  refine ce_iald C hH lc_94.1 lc_94.2 (ce_in_vp hi34) d12_winsOf_34 ?_
  refine pf_12_361 C hH d12_winsOf_35 (fun H locs hH => ?_)
  obtain ⟨h_35, eh_35, e⟩ := ce_nmE e
  rw [← eh_35] at hH
  refine lv_aload_n hx hb d12_winsOf_38 rfl (lv_at hl 1 rfl) ?_
  refine lv_iconst (v := (2 : Int32)) hx hb d12_winsOf_39 (by decide) ?_
  refine lv_aload_n hx hb d12_winsOf_40 rfl (lv_at hl 1 rfl) ?_
  refine gf_12_92 C hH d12_winsOf_41 ?_
  refine lv_iload_n hx hb d12_winsOf_44 rfl (lv_at hl 0 rfl) ?_
  obtain ⟨hi45, e⟩ := ce_gd e
  refine ce_iald C hH lc_95.1 lc_95.2 (ce_in_vp hi45) d12_winsOf_45 ?_
  refine lv_imul hx hb d12_winsOf_46 ?_
  refine pf_12_364 C hH d12_winsOf_47 (fun H locs hH => ?_)
  obtain ⟨h_47, eh_47, e⟩ := ce_nmE e
  rw [← eh_47] at hH
  exact ce_vret C (ce_sok aK aV B0) hH (Option.some.inj e) d12_winsOf_50
abbrev b12_whyNotSet : ByteArray := prog_14_method_85_code
def y12_whyNotSet : MethodName := ⟨cn_12, "whyNotSet", "(I)I"⟩
theorem d12_whyNotSet_0 : decode b12_whyNotSet 0 = .ok (.iload_n 1, 1) := by decide +kernel
theorem d12_whyNotSet_1 : decode b12_whyNotSet 1 = .ok (.ifCond .ne 5, 3) := by decide +kernel
theorem d12_whyNotSet_4 : decode b12_whyNotSet 4 = .ok (.iconst (-1), 1) := by decide +kernel
theorem d12_whyNotSet_5 : decode b12_whyNotSet 5 = .ok (.ireturn, 1) := by decide +kernel
theorem d12_whyNotSet_6 : decode b12_whyNotSet 6 = .ok (.aload_n 0, 1) := by decide +kernel
theorem d12_whyNotSet_7 : decode b12_whyNotSet 7 = .ok (.invokevirtual 355, 3) := by decide +kernel
theorem d12_whyNotSet_10 : decode b12_whyNotSet 10 = .ok (.ifCond .eq 23, 3) := by decide +kernel
theorem d12_whyNotSet_13 : decode b12_whyNotSet 13 = .ok (.iload_n 1, 1) := by decide +kernel
theorem d12_whyNotSet_14 : decode b12_whyNotSet 14 = .ok (.i2l, 1) := by decide +kernel
theorem d12_whyNotSet_15 : decode b12_whyNotSet 15 = .ok (.lconst 1, 1) := by decide +kernel
theorem d12_whyNotSet_16 : decode b12_whyNotSet 16 = .ok (.iconst 1, 1) := by decide +kernel
theorem d12_whyNotSet_17 : decode b12_whyNotSet 17 = .ok (.aload_n 0, 1) := by decide +kernel
theorem d12_whyNotSet_18 : decode b12_whyNotSet 18 = .ok (.getfield 7, 3) := by decide +kernel
theorem d12_whyNotSet_21 : decode b12_whyNotSet 21 = .ok (.iconst 2, 1) := by decide +kernel
theorem d12_whyNotSet_22 : decode b12_whyNotSet 22 = .ok (.iaload, 1) := by decide +kernel
theorem d12_whyNotSet_23 : decode b12_whyNotSet 23 = .ok (.ishl, 1) := by decide +kernel
theorem d12_whyNotSet_24 : decode b12_whyNotSet 24 = .ok (.iconst 1, 1) := by decide +kernel
theorem d12_whyNotSet_25 : decode b12_whyNotSet 25 = .ok (.isub, 1) := by decide +kernel
theorem d12_whyNotSet_26 : decode b12_whyNotSet 26 = .ok (.i2l, 1) := by decide +kernel
theorem d12_whyNotSet_27 : decode b12_whyNotSet 27 = .ok (.invokestatic 98, 3) := by decide +kernel
theorem d12_whyNotSet_30 : decode b12_whyNotSet 30 = .ok (.ifCond .ne 6, 3) := by decide +kernel
theorem d12_whyNotSet_33 : decode b12_whyNotSet 33 = .ok (.bipush (-2), 2) := by decide +kernel
theorem d12_whyNotSet_35 : decode b12_whyNotSet 35 = .ok (.ireturn, 1) := by decide +kernel
theorem d12_whyNotSet_36 : decode b12_whyNotSet 36 = .ok (.aload_n 0, 1) := by decide +kernel
theorem d12_whyNotSet_37 : decode b12_whyNotSet 37 = .ok (.invokevirtual 227, 3) := by decide +kernel
theorem d12_whyNotSet_40 : decode b12_whyNotSet 40 = .ok (.iconst 0, 1) := by decide +kernel
theorem d12_whyNotSet_41 : decode b12_whyNotSet 41 = .ok (.istore_n 2, 1) := by decide +kernel
theorem d12_whyNotSet_42 : decode b12_whyNotSet 42 = .ok (.iload_n 1, 1) := by decide +kernel
theorem d12_whyNotSet_43 : decode b12_whyNotSet 43 = .ok (.iload_n 2, 1) := by decide +kernel
theorem d12_whyNotSet_44 : decode b12_whyNotSet 44 = .ok (.invokestatic 349, 3) := by decide +kernel
theorem d12_whyNotSet_47 : decode b12_whyNotSet 47 = .ok (.ifCond .ne 9, 3) := by decide +kernel
theorem d12_whyNotSet_50 : decode b12_whyNotSet 50 = .ok (.iinc 2 1, 3) := by decide +kernel
theorem d12_whyNotSet_53 : decode b12_whyNotSet 53 = .ok (.goto (-11), 3) := by decide +kernel
theorem d12_whyNotSet_56 : decode b12_whyNotSet 56 = .ok (.iconst 0, 1) := by decide +kernel
theorem d12_whyNotSet_57 : decode b12_whyNotSet 57 = .ok (.istore_n 3, 1) := by decide +kernel
theorem d12_whyNotSet_58 : decode b12_whyNotSet 58 = .ok (.iload_n 3, 1) := by decide +kernel
theorem d12_whyNotSet_59 : decode b12_whyNotSet 59 = .ok (.aload_n 0, 1) := by decide +kernel
theorem d12_whyNotSet_60 : decode b12_whyNotSet 60 = .ok (.getfield 7, 3) := by decide +kernel
theorem d12_whyNotSet_63 : decode b12_whyNotSet 63 = .ok (.iconst 2, 1) := by decide +kernel
theorem d12_whyNotSet_64 : decode b12_whyNotSet 64 = .ok (.iaload, 1) := by decide +kernel
theorem d12_whyNotSet_65 : decode b12_whyNotSet 65 = .ok (.if_icmp .ge 35, 3) := by decide +kernel
theorem d12_whyNotSet_68 : decode b12_whyNotSet 68 = .ok (.iload_n 1, 1) := by decide +kernel
theorem d12_whyNotSet_69 : decode b12_whyNotSet 69 = .ok (.iload_n 3, 1) := by decide +kernel
theorem d12_whyNotSet_70 : decode b12_whyNotSet 70 = .ok (.invokestatic 349, 3) := by decide +kernel
theorem d12_whyNotSet_73 : decode b12_whyNotSet 73 = .ok (.ifCond .eq 21, 3) := by decide +kernel
theorem d12_whyNotSet_76 : decode b12_whyNotSet 76 = .ok (.aload_n 0, 1) := by decide +kernel
theorem d12_whyNotSet_77 : decode b12_whyNotSet 77 = .ok (.getfield 32, 3) := by decide +kernel
theorem d12_whyNotSet_80 : decode b12_whyNotSet 80 = .ok (.iload_n 3, 1) := by decide +kernel
theorem d12_whyNotSet_81 : decode b12_whyNotSet 81 = .ok (.iaload, 1) := by decide +kernel
theorem d12_whyNotSet_82 : decode b12_whyNotSet 82 = .ok (.aload_n 0, 1) := by decide +kernel
theorem d12_whyNotSet_83 : decode b12_whyNotSet 83 = .ok (.getfield 32, 3) := by decide +kernel
theorem d12_whyNotSet_86 : decode b12_whyNotSet 86 = .ok (.iload_n 2, 1) := by decide +kernel
theorem d12_whyNotSet_87 : decode b12_whyNotSet 87 = .ok (.iaload, 1) := by decide +kernel
theorem d12_whyNotSet_88 : decode b12_whyNotSet 88 = .ok (.if_icmp .eq 6, 3) := by decide +kernel
theorem d12_whyNotSet_91 : decode b12_whyNotSet 91 = .ok (.bipush (-2), 2) := by decide +kernel
theorem d12_whyNotSet_93 : decode b12_whyNotSet 93 = .ok (.ireturn, 1) := by decide +kernel
theorem d12_whyNotSet_94 : decode b12_whyNotSet 94 = .ok (.iinc 3 1, 3) := by decide +kernel
theorem d12_whyNotSet_97 : decode b12_whyNotSet 97 = .ok (.goto (-39), 3) := by decide +kernel
theorem d12_whyNotSet_100 : decode b12_whyNotSet 100 = .ok (.aload_n 0, 1) := by decide +kernel
theorem d12_whyNotSet_101 : decode b12_whyNotSet 101 = .ok (.iload_n 2, 1) := by decide +kernel
theorem d12_whyNotSet_102 : decode b12_whyNotSet 102 = .ok (.invokevirtual 233, 3) := by decide +kernel
theorem d12_whyNotSet_105 : decode b12_whyNotSet 105 = .ok (.ifCond .eq 6, 3) := by decide +kernel
theorem d12_whyNotSet_108 : decode b12_whyNotSet 108 = .ok (.bipush (-3), 2) := by decide +kernel
theorem d12_whyNotSet_110 : decode b12_whyNotSet 110 = .ok (.ireturn, 1) := by decide +kernel
theorem d12_whyNotSet_111 : decode b12_whyNotSet 111 = .ok (.aload_n 0, 1) := by decide +kernel
theorem d12_whyNotSet_112 : decode b12_whyNotSet 112 = .ok (.invokevirtual 256, 3) := by decide +kernel
theorem d12_whyNotSet_115 : decode b12_whyNotSet 115 = .ok (.aload_n 0, 1) := by decide +kernel
theorem d12_whyNotSet_116 : decode b12_whyNotSet 116 = .ok (.iload_n 1, 1) := by decide +kernel
theorem d12_whyNotSet_117 : decode b12_whyNotSet 117 = .ok (.invokevirtual 358, 3) := by decide +kernel
theorem d12_whyNotSet_120 : decode b12_whyNotSet 120 = .ok (.iconst 0, 1) := by decide +kernel
theorem d12_whyNotSet_121 : decode b12_whyNotSet 121 = .ok (.ireturn, 1) := by decide +kernel
theorem mc12_winsOf : Cond.code y12_winsOf b12_winsOf 4 none ∈ ce_cm := ce_cm_of (List.mem_of_getElem? (i := 1601) (by decide +kernel)) (by decide +kernel)
theorem ml_12_358 : Cond.methodLink cn_12 358 y12_winsOf ∈ ce_cm := ce_cm_of (List.mem_of_getElem? (i := 1598) (by decide +kernel)) (by decide +kernel)
theorem mi12_winsOf : Cond.instanceMethod y12_winsOf ∈ ce_cm := ce_cm_of (List.mem_of_getElem? (i := 1600) (by decide +kernel)) (by decide +kernel)
theorem ms12_winsOf : Cond.selects cn_12 y12_winsOf y12_winsOf ∈ ce_cm := ce_cm_of (List.mem_of_getElem? (i := 84) (by decide +kernel)) (by decide +kernel)
theorem mc12_is : Cond.code y12_is b12_is 1 (some .boolean) ∈ ce_cm := ce_cm_of (List.mem_of_getElem? (i := 1594) (by decide +kernel)) (by decide +kernel)
theorem ml_12_355 : Cond.methodLink cn_12 355 y12_is ∈ ce_cm := ce_cm_of (List.mem_of_getElem? (i := 1591) (by decide +kernel)) (by decide +kernel)
theorem mi12_is : Cond.instanceMethod y12_is ∈ ce_cm := ce_cm_of (List.mem_of_getElem? (i := 1593) (by decide +kernel)) (by decide +kernel)
theorem ms12_is : Cond.selects cn_12 y12_is y12_is ∈ ce_cm := ce_cm_of (List.mem_of_getElem? (i := 83) (by decide +kernel)) (by decide +kernel)
def f12_whyNotSet_b42 (F : Nat) (x1 : Int32) (x2 : Int32) (h : Hp) : Option ((Int32 × Hp) ⊕ (Int32 × Hp)) :=
  Option.bind (f12_has F x1 x2 h) (fun o44 =>
    if o44.1 = 0 then
      some (.inl (x2 + (1 : Int32), o44.2))
    else
      some (.inr (x2, o44.2)))
set_option maxRecDepth 20000 in
theorem l12_whyNotSet_42 (C : ce_Cx p s m args c meth b12_whyNotSet 4 (some .int) cn_12 D ad cA B0 (ce_St aK aV B0)) (F : Nat) (x1 : Int32)  (r : Int32 × Hp) (g : (Int32 × Hp) → Option (Int32 × Hp)) (hx : ∀ (x2 : Int32) (h : Hp) (H : Heap) (locs : List Loc) (ls : Array Slot), ce_H D ad cA B0 [] s h H locs → lv_has ls 4 [(0, .ref (ad 68)), (1, .int x1), (2, .int x2)] → g (x2, h) = some r → W p l e0 { frames := 15, cells := 0, slots := 0, locals := 391 } s m args below meth c H locs 0 0 (MQ below (ce_Q D ad cA B0 (ce_St aK aV B0) (some (.int r.1)) r.2) args s 0 0 (fun q => B0 ≤ q)) (F0 m 56 ls [])) : ∀ (n : Nat) (x2 : Int32) (h : Hp) (H : Heap) (locs : List Loc) (ls : Array Slot), ce_H D ad cA B0 [] s h H locs → lv_has ls 4 [(0, .ref (ad 68)), (1, .int x1), (2, .int x2)] → Option.bind (ce_it (fun (st : Int32 × Hp) => f12_whyNotSet_b42 F x1 st.1 st.2) n (x2, h)) g = some r → W p l e0 { frames := 15, cells := 0, slots := 0, locals := 391 } s m args below meth c H locs 0 0 (MQ below (ce_Q D ad cA B0 (ce_St aK aV B0) (some (.int r.1)) r.2) args s 0 0 (fun q => B0 ≤ q)) (F0 m 42 ls []) := by
  intro n
  induction n with
  | zero =>
    intro x2 h H locs ls hH hl e
    exact absurd e (fun z => by cases z)
  | succ n ih =>
    intro x2 h H locs ls hH hl e
    have hx9 := C.1
    have hb := C.2.1
    have e : Option.bind (f12_whyNotSet_b42 F x1 x2 h) _ = some r := ce_it_bd e
    unfold f12_whyNotSet_b42 at e
    refine lv_iload_n hx9 hb d12_whyNotSet_42 rfl (lv_at hl 1 rfl) ?_
    refine lv_iload_n hx9 hb d12_whyNotSet_43 rfl (lv_at hl 2 rfl) ?_
    obtain ⟨o44, eo44, e⟩ := ce_bd e
    refine ce_callS (As := [.int x1, .int x2]) (rest := []) C (ce_sok aK aV B0) hH (c12_has l D ad cA aK aV B0 C.2.2.2.2.2.2.1 F x1 x2  h o44 eo44) mc12_has ml_12_349 mt12_has mI_12 (n := 2) (by decide) rfl ⟨Nat.le_of_ble_eq_true rfl, Nat.le_of_ble_eq_true rfl⟩ ⟨Nat.le_of_ble_eq_true rfl, Nat.le_of_ble_eq_true rfl⟩ hl.1 rfl (Nat.le_of_ble_eq_true rfl) d12_whyNotSet_44 (fun H locs hH => ?_)
    refine W.eq (g2 := F0 m 47 ls [.int o44.1]) rfl ?_
    refine lv_if_ne (tgt := 56) hx9 hb d12_whyNotSet_47 (by decide) (fun hc47 => ?_) (fun hc47 => ?_)
    · have e := ce_if0 e hc47
      exact hx x2 o44.2 _ _ _ hH (lv_sub hl [0, 1, 2] rfl) e
    · have e := ce_if1 e hc47
      refine lv_iinc (v := x2 + (1 : Int32)) (lv' := [(2, .int (x2 + (1 : Int32))), (0, .ref (ad 68)), (1, .int x1)]) hx9 hb d12_whyNotSet_50 hl (k := 2) rfl rfl (by decide) rfl (fun ls hl => ?_)
      refine lv_goto (tgt := 42) hx9 hb d12_whyNotSet_53 (by decide) ?_
      exact ih (x2 + (1 : Int32)) o44.2 _ _ _ hH (lv_sub hl [1, 2, 0] rfl) e
def f12_whyNotSet_b58 (F : Nat) (x1 : Int32) (x2 : Int32) (x3 : Int32) (h : Hp) : Option ((Int32 × Hp) ⊕ ((Int32 × Hp) ⊕ (Hp))) :=
  if (h 69 ((2 : Int32)).toNatClampNeg) ≤ x3 then
    some (.inr (.inr h))
  else
    Option.bind (f12_has F x1 x3 h) (fun o70 =>
      if o70.1 = 0 then
        some (.inl (x3 + (1 : Int32), o70.2))
      else
        if ce_in x3 10 = true then
          if ce_in x2 10 = true then
            if (o70.2 75 (x3).toNatClampNeg) = (o70.2 75 (x2).toNatClampNeg) then
              some (.inl (x3 + (1 : Int32), o70.2))
            else
              some (.inr (.inl ((-2 : Int32), o70.2)))
          else none
        else none)
set_option maxRecDepth 20000 in
theorem l12_whyNotSet_58 (C : ce_Cx p s m args c meth b12_whyNotSet 4 (some .int) cn_12 D ad cA B0 (ce_St aK aV B0)) (F : Nat) (x1 : Int32) (x2 : Int32)  (r : Int32 × Hp) (g : ((Int32 × Hp) ⊕ (Hp)) → Option (Int32 × Hp)) (hx : ∀  (h : Hp) (H : Heap) (locs : List Loc) (ls : Array Slot), ce_H D ad cA B0 [] s h H locs → lv_has ls 4 [(0, .ref (ad 68)), (1, .int x1), (2, .int x2)] → g (.inr h) = some r → W p l e0 { frames := 15, cells := 0, slots := 0, locals := 391 } s m args below meth c H locs 0 0 (MQ below (ce_Q D ad cA B0 (ce_St aK aV B0) (some (.int r.1)) r.2) args s 0 0 (fun q => B0 ≤ q)) (F0 m 100 ls [])) (he : ∀ z, g (.inl z) = some z) : ∀ (n : Nat) (x3 : Int32) (h : Hp) (H : Heap) (locs : List Loc) (ls : Array Slot), ce_H D ad cA B0 [] s h H locs → lv_has ls 4 [(0, .ref (ad 68)), (1, .int x1), (2, .int x2), (3, .int x3)] → Option.bind (ce_it (fun (st : Int32 × Hp) => f12_whyNotSet_b58 F x1 x2 st.1 st.2) n (x3, h)) g = some r → W p l e0 { frames := 15, cells := 0, slots := 0, locals := 391 } s m args below meth c H locs 0 0 (MQ below (ce_Q D ad cA B0 (ce_St aK aV B0) (some (.int r.1)) r.2) args s 0 0 (fun q => B0 ≤ q)) (F0 m 58 ls []) := by
  intro n
  induction n with
  | zero =>
    intro x3 h H locs ls hH hl e
    exact absurd e (fun z => by cases z)
  | succ n ih =>
    intro x3 h H locs ls hH hl e
    have hx9 := C.1
    have hb := C.2.1
    have e : Option.bind (f12_whyNotSet_b58 F x1 x2 x3 h) _ = some r := ce_it_bd e
    unfold f12_whyNotSet_b58 at e
    refine lv_iload_n hx9 hb d12_whyNotSet_58 rfl (lv_at hl 3 rfl) ?_
    refine lv_aload_n hx9 hb d12_whyNotSet_59 rfl (lv_at hl 0 rfl) ?_
    refine gf_12_7 C hH d12_whyNotSet_60 ?_
    refine lv_iconst (v := (2 : Int32)) hx9 hb d12_whyNotSet_63 (by decide) ?_
    refine ce_iald C hH lc_69.1 lc_69.2 (ce_in_vp (by decide)) d12_whyNotSet_64 ?_
    refine lv_icmp_ge (tgt := 100) hx9 hb d12_whyNotSet_65 (by decide) (fun hc65 => ?_) (fun hc65 => ?_)
    · have e := ce_if1 e hc65
      exact hx  h _ _ _ hH (lv_sub hl [0, 1, 2] rfl) e
    · have e := ce_if0 e hc65
      refine lv_iload_n hx9 hb d12_whyNotSet_68 rfl (lv_at hl 1 rfl) ?_
      refine lv_iload_n hx9 hb d12_whyNotSet_69 rfl (lv_at hl 3 rfl) ?_
      obtain ⟨o70, eo70, e⟩ := ce_bd e
      refine ce_callS (As := [.int x1, .int x3]) (rest := []) C (ce_sok aK aV B0) hH (c12_has l D ad cA aK aV B0 C.2.2.2.2.2.2.1 F x1 x3  h o70 eo70) mc12_has ml_12_349 mt12_has mI_12 (n := 2) (by decide) rfl ⟨Nat.le_of_ble_eq_true rfl, Nat.le_of_ble_eq_true rfl⟩ ⟨Nat.le_of_ble_eq_true rfl, Nat.le_of_ble_eq_true rfl⟩ hl.1 rfl (Nat.le_of_ble_eq_true rfl) d12_whyNotSet_70 (fun H locs hH => ?_)
      refine W.eq (g2 := F0 m 73 ls [.int o70.1]) rfl ?_
      refine lv_if_eq (tgt := 94) hx9 hb d12_whyNotSet_73 (by decide) (fun hc73 => ?_) (fun hc73 => ?_)
      · have e := ce_if1 e hc73
        refine lv_iinc (v := x3 + (1 : Int32)) (lv' := [(3, .int (x3 + (1 : Int32))), (0, .ref (ad 68)), (1, .int x1), (2, .int x2)]) hx9 hb d12_whyNotSet_94 hl (k := 3) rfl rfl (by decide) rfl (fun ls hl => ?_)
        refine lv_goto (tgt := 58) hx9 hb d12_whyNotSet_97 (by decide) ?_
        exact ih (x3 + (1 : Int32)) o70.2 _ _ _ hH (lv_sub hl [1, 2, 3, 0] rfl) e
      · have e := ce_if0 e hc73
        refine lv_aload_n hx9 hb d12_whyNotSet_76 rfl (lv_at hl 0 rfl) ?_
        refine gf_12_32 C hH d12_whyNotSet_77 ?_
        refine lv_iload_n hx9 hb d12_whyNotSet_80 rfl (lv_at hl 3 rfl) ?_
        obtain ⟨hi81, e⟩ := ce_gd e
        refine ce_iald C hH lc_75.1 lc_75.2 (ce_in_vp hi81) d12_whyNotSet_81 ?_
        refine lv_aload_n hx9 hb d12_whyNotSet_82 rfl (lv_at hl 0 rfl) ?_
        refine gf_12_32 C hH d12_whyNotSet_83 ?_
        refine lv_iload_n hx9 hb d12_whyNotSet_86 rfl (lv_at hl 2 rfl) ?_
        obtain ⟨hi87, e⟩ := ce_gd e
        refine ce_iald C hH lc_75.1 lc_75.2 (ce_in_vp hi87) d12_whyNotSet_87 ?_
        refine lv_icmp_eq (tgt := 94) hx9 hb d12_whyNotSet_88 (by decide) (fun hc88 => ?_) (fun hc88 => ?_)
        · have e := ce_if1 e hc88
          refine lv_iinc (v := x3 + (1 : Int32)) (lv' := [(3, .int (x3 + (1 : Int32))), (0, .ref (ad 68)), (1, .int x1), (2, .int x2)]) hx9 hb d12_whyNotSet_94 hl (k := 3) rfl rfl (by decide) rfl (fun ls hl => ?_)
          refine lv_goto (tgt := 58) hx9 hb d12_whyNotSet_97 (by decide) ?_
          exact ih (x3 + (1 : Int32)) o70.2 _ _ _ hH (lv_sub hl [1, 2, 3, 0] rfl) e
        · have e := ce_if0 e hc88
          refine lv_bipush (v := (-2 : Int32)) hx9 hb d12_whyNotSet_91 (by decide) ?_
          have e := (he _).symm.trans e
          exact ce_iretE C (ce_sok aK aV B0) hH e d12_whyNotSet_93
def f12_whyNotSet (F : Nat) (x1 : Int32) (h : Hp) : Option (Int32 × Hp) :=
  if x1 = 0 then
    some ((-1 : Int32), h)
  else
    Option.bind (f12_is F  h) (fun o7 =>
      if o7.1 = 0 then
        some ((-2 : Int32), o7.2)
      else
        Option.bind (f12_in F ((x1).toInt64) (1 : Int64) (((((1 : Int32) <<< ((o7.2 69 ((2 : Int32)).toNatClampNeg) &&& 31)) - (1 : Int32))).toInt64) o7.2) (fun o27 =>
          if o27.1 = 0 then
            some ((-2 : Int32), o27.2)
          else
            Option.bind (f12_laysBuses F  o27.2) (fun o37 =>
              Option.bind (ce_it (fun (st : Int32 × Hp) => f12_whyNotSet_b42 F x1 st.1 st.2) F ((0 : Int32), o37)) (fun o42 =>
                Option.bind (ce_it (fun (st : Int32 × Hp) => f12_whyNotSet_b58 F x1 o42.1 st.1 st.2) F ((0 : Int32), o42.2)) (fun o58w => match o58w with
                  | .inl z => some z
                  | .inr o58 =>
                    Option.bind (f12_isLoop F o42.1 o58) (fun o102 =>
                      if o102.1 = 0 then
                        Option.bind (f12_runs F  o102.2) (fun o112 =>
                          Option.bind (f12_winsOf F x1 o112) (fun o117 =>
                            some ((0 : Int32), o117)))
                      else
                        some ((-3 : Int32), o102.2)))))))
set_option maxRecDepth 20000 in
theorem c12_whyNotSet (l : Launch) (D : va_G) (ad : Nat → Nat) (cA : Nat → ClassId) (aK aV : Nat → Nat) (B0 : Nat) (hA : ce_Ad ad B0) (F : Nat) (x1 : Int32)  (h : Hp) (r : Int32 × Hp) (e : f12_whyNotSet F x1 h = some r) : ce_Ct l D ad cA B0 (ce_St aK aV B0) y12_whyNotSet b12_whyNotSet 4 (some .int) 15 391 0 0 [.ref (ad 68), .int x1] h (some (.int r.1)) r.2 := by
  refine ce_enter hA (by decide) rfl (Nat.le_of_ble_eq_true rfl) (fun p e0 s m below meth c ls C hH hl => ?_)
  have hl : lv_has ls 4 [(0, .ref (ad 68)), (1, .int x1)] := hl
  have hx := C.1
  have hb := C.2.1
  have e : Option.bind _ some = some r := (congrArg (fun z => Option.bind z some) e).trans rfl
  unfold f12_whyNotSet at e
  refine lv_iload_n hx hb d12_whyNotSet_0 rfl (lv_at hl 1 rfl) ?_
  refine lv_if_ne (tgt := 6) hx hb d12_whyNotSet_1 (by decide) (fun hc1 => ?_) (fun hc1 => ?_)
  · have e := ce_if0 e hc1
    refine lv_aload_n hx hb d12_whyNotSet_6 rfl (lv_at hl 0 rfl) ?_
    obtain ⟨o7, eo7, e⟩ := ce_bd e
    refine ce_callV (As := []) (rest := []) C (ce_sok aK aV B0) hH (c12_is l D ad cA aK aV B0 C.2.2.2.2.2.2.1 F   h o7 eo7) lo_68.1 lo_68.2.choose_spec rfl rfl mc12_is ml_12_355 mi12_is ms12_is mI_12 (n := 0) (by decide) rfl ⟨Nat.le_of_ble_eq_true rfl, Nat.le_of_ble_eq_true rfl⟩ ⟨Nat.le_of_ble_eq_true rfl, Nat.le_of_ble_eq_true rfl⟩ hl.1 rfl (Nat.le_of_ble_eq_true rfl) d12_whyNotSet_7 (fun H locs hH => ?_)
    refine W.eq (g2 := F0 m 10 ls [.int o7.1]) rfl ?_
    refine lv_if_eq (tgt := 33) hx hb d12_whyNotSet_10 (by decide) (fun hc10 => ?_) (fun hc10 => ?_)
    · have e := ce_if1 e hc10
      refine lv_bipush (v := (-2 : Int32)) hx hb d12_whyNotSet_33 (by decide) ?_
      exact ce_iretE C (ce_sok aK aV B0) hH e d12_whyNotSet_35
    · have e := ce_if0 e hc10
      refine lv_iload_n hx hb d12_whyNotSet_13 rfl (lv_at hl 1 rfl) ?_
      refine lv_i2l (v := (x1).toInt64) hx hb d12_whyNotSet_14 rfl ?_
      refine lv_lconst (v := (1 : Int64)) hx hb d12_whyNotSet_15 (by decide) ?_
      refine lv_iconst (v := (1 : Int32)) hx hb d12_whyNotSet_16 (by decide) ?_
      refine lv_aload_n hx hb d12_whyNotSet_17 rfl (lv_at hl 0 rfl) ?_
      refine gf_12_7 C hH d12_whyNotSet_18 ?_
      refine lv_iconst (v := (2 : Int32)) hx hb d12_whyNotSet_21 (by decide) ?_
      refine ce_iald C hH lc_69.1 lc_69.2 (ce_in_vp (by decide)) d12_whyNotSet_22 ?_
      refine lv_ishl hx hb d12_whyNotSet_23 ?_
      refine lv_iconst (v := (1 : Int32)) hx hb d12_whyNotSet_24 (by decide) ?_
      refine lv_isub hx hb d12_whyNotSet_25 ?_
      refine lv_i2l (v := ((((1 : Int32) <<< ((o7.2 69 ((2 : Int32)).toNatClampNeg) &&& 31)) - (1 : Int32))).toInt64) hx hb d12_whyNotSet_26 rfl ?_
      obtain ⟨o27, eo27, e⟩ := ce_bd e
      refine ce_callS (As := [.long ((x1).toInt64), .long (1 : Int64), .long (((((1 : Int32) <<< ((o7.2 69 ((2 : Int32)).toNatClampNeg) &&& 31)) - (1 : Int32))).toInt64)]) (rest := []) C (ce_sok aK aV B0) hH (c12_in l D ad cA aK aV B0 C.2.2.2.2.2.2.1 F ((x1).toInt64) (1 : Int64) (((((1 : Int32) <<< ((o7.2 69 ((2 : Int32)).toNatClampNeg) &&& 31)) - (1 : Int32))).toInt64)  o7.2 o27 eo27) mc12_in ml_12_98 mt12_in mI_12 (n := 3) (by decide) rfl ⟨Nat.le_of_ble_eq_true rfl, Nat.le_of_ble_eq_true rfl⟩ ⟨Nat.le_of_ble_eq_true rfl, Nat.le_of_ble_eq_true rfl⟩ hl.1 rfl (Nat.le_of_ble_eq_true rfl) d12_whyNotSet_27 (fun H locs hH => ?_)
      refine W.eq (g2 := F0 m 30 ls [.int o27.1]) rfl ?_
      refine lv_if_ne (tgt := 36) hx hb d12_whyNotSet_30 (by decide) (fun hc30 => ?_) (fun hc30 => ?_)
      · have e := ce_if0 e hc30
        refine lv_aload_n hx hb d12_whyNotSet_36 rfl (lv_at hl 0 rfl) ?_
        obtain ⟨o37, eo37, e⟩ := ce_bd e
        refine ce_callV (As := []) (rest := []) C (ce_sok aK aV B0) hH (c12_laysBuses l D ad cA aK aV B0 C.2.2.2.2.2.2.1 F   o27.2 o37 eo37) lo_68.1 lo_68.2.choose_spec rfl rfl mc12_laysBuses ml_12_227 mi12_laysBuses ms12_laysBuses mI_12 (n := 0) (by decide) rfl ⟨Nat.le_of_ble_eq_true rfl, Nat.le_of_ble_eq_true rfl⟩ ⟨Nat.le_of_ble_eq_true rfl, Nat.le_of_ble_eq_true rfl⟩ hl.1 rfl (Nat.le_of_ble_eq_true rfl) d12_whyNotSet_37 (fun H locs hH => ?_)
        refine W.eq (g2 := F0 m 40 ls []) rfl ?_
        refine lv_iconst (v := (0 : Int32)) hx hb d12_whyNotSet_40 (by decide) ?_
        refine lv_istore_n (lv' := [(2, .int (0 : Int32)), (0, .ref (ad 68)), (1, .int x1)]) hx hb d12_whyNotSet_41 rfl hl (by decide) rfl (fun ls hl => ?_)
        refine l12_whyNotSet_42 C F x1  r _ (fun y42_2 h_42 H locs ls hH hl e => ?_) F (0 : Int32) o37 _ _ _ hH (lv_sub hl [1, 2, 0] rfl) (ce_as e)
        try dsimp only at e
        refine lv_iconst (v := (0 : Int32)) hx hb d12_whyNotSet_56 (by decide) ?_
        refine lv_istore_n (lv' := [(3, .int (0 : Int32)), (0, .ref (ad 68)), (1, .int x1), (2, .int y42_2)]) hx hb d12_whyNotSet_57 rfl hl (by decide) rfl (fun ls hl => ?_)
        refine l12_whyNotSet_58 C F x1 y42_2  r _ (fun  h_58 H locs ls hH hl e => ?_) (fun z => rfl) F (0 : Int32) h_42 _ _ _ hH (lv_sub hl [1, 2, 3, 0] rfl) (ce_as e)
        try dsimp only at e
        refine lv_aload_n hx hb d12_whyNotSet_100 rfl (lv_at hl 0 rfl) ?_
        refine lv_iload_n hx hb d12_whyNotSet_101 rfl (lv_at hl 2 rfl) ?_
        obtain ⟨o102, eo102, e⟩ := ce_bd e
        refine ce_callV (As := [.int y42_2]) (rest := []) C (ce_sok aK aV B0) hH (c12_isLoop l D ad cA aK aV B0 C.2.2.2.2.2.2.1 F y42_2  h_58 o102 eo102) lo_68.1 lo_68.2.choose_spec rfl rfl mc12_isLoop ml_12_233 mi12_isLoop ms12_isLoop mI_12 (n := 1) (by decide) rfl ⟨Nat.le_of_ble_eq_true rfl, Nat.le_of_ble_eq_true rfl⟩ ⟨Nat.le_of_ble_eq_true rfl, Nat.le_of_ble_eq_true rfl⟩ hl.1 rfl (Nat.le_of_ble_eq_true rfl) d12_whyNotSet_102 (fun H locs hH => ?_)
        refine W.eq (g2 := F0 m 105 ls [.int o102.1]) rfl ?_
        refine lv_if_eq (tgt := 111) hx hb d12_whyNotSet_105 (by decide) (fun hc105 => ?_) (fun hc105 => ?_)
        · have e := ce_if1 e hc105
          refine lv_aload_n hx hb d12_whyNotSet_111 rfl (lv_at hl 0 rfl) ?_
          obtain ⟨o112, eo112, e⟩ := ce_bd e
          refine ce_callV (As := []) (rest := []) C (ce_sok aK aV B0) hH (c12_runs l D ad cA aK aV B0 C.2.2.2.2.2.2.1 F   o102.2 o112 eo112) lo_68.1 lo_68.2.choose_spec rfl rfl mc12_runs ml_12_256 mi12_runs ms12_runs mI_12 (n := 0) (by decide) rfl ⟨Nat.le_of_ble_eq_true rfl, Nat.le_of_ble_eq_true rfl⟩ ⟨Nat.le_of_ble_eq_true rfl, Nat.le_of_ble_eq_true rfl⟩ hl.1 rfl (Nat.le_of_ble_eq_true rfl) d12_whyNotSet_112 (fun H locs hH => ?_)
          refine W.eq (g2 := F0 m 115 ls []) rfl ?_
          refine lv_aload_n hx hb d12_whyNotSet_115 rfl (lv_at hl 0 rfl) ?_
          refine lv_iload_n hx hb d12_whyNotSet_116 rfl (lv_at hl 1 rfl) ?_
          obtain ⟨o117, eo117, e⟩ := ce_bd e
          refine ce_callV (As := [.int x1]) (rest := []) C (ce_sok aK aV B0) hH (c12_winsOf l D ad cA aK aV B0 C.2.2.2.2.2.2.1 F x1  o112 o117 eo117) lo_68.1 lo_68.2.choose_spec rfl rfl mc12_winsOf ml_12_358 mi12_winsOf ms12_winsOf mI_12 (n := 1) (by decide) rfl ⟨Nat.le_of_ble_eq_true rfl, Nat.le_of_ble_eq_true rfl⟩ ⟨Nat.le_of_ble_eq_true rfl, Nat.le_of_ble_eq_true rfl⟩ hl.1 rfl (Nat.le_of_ble_eq_true rfl) d12_whyNotSet_117 (fun H locs hH => ?_)
          refine W.eq (g2 := F0 m 120 ls []) rfl ?_
          refine lv_iconst (v := (0 : Int32)) hx hb d12_whyNotSet_120 (by decide) ?_
          exact ce_iretE C (ce_sok aK aV B0) hH e d12_whyNotSet_121
        · have e := ce_if0 e hc105
          refine lv_bipush (v := (-3 : Int32)) hx hb d12_whyNotSet_108 (by decide) ?_
          exact ce_iretE C (ce_sok aK aV B0) hH e d12_whyNotSet_110
      · have e := ce_if1 e hc30
        refine lv_bipush (v := (-2 : Int32)) hx hb d12_whyNotSet_33 (by decide) ?_
        exact ce_iretE C (ce_sok aK aV B0) hH e d12_whyNotSet_35
  · have e := ce_if1 e hc1
    refine lv_iconst (v := (-1 : Int32)) hx hb d12_whyNotSet_4 (by decide) ?_
    exact ce_iretE C (ce_sok aK aV B0) hH e d12_whyNotSet_5
abbrev b12_wins : ByteArray := prog_14_method_87_code
def y12_wins : MethodName := ⟨cn_12, "wins", "(I)I"⟩
theorem d12_wins_0 : decode b12_wins 0 = .ok (.aload_n 0, 1) := by decide +kernel
theorem d12_wins_1 : decode b12_wins 1 = .ok (.iload_n 1, 1) := by decide +kernel
theorem d12_wins_2 : decode b12_wins 2 = .ok (.invokevirtual 367, 3) := by decide +kernel
theorem d12_wins_5 : decode b12_wins 5 = .ok (.istore_n 2, 1) := by decide +kernel
theorem d12_wins_6 : decode b12_wins 6 = .ok (.iload_n 2, 1) := by decide +kernel
theorem d12_wins_7 : decode b12_wins 7 = .ok (.ifCond .ge 7, 3) := by decide +kernel
theorem d12_wins_10 : decode b12_wins 10 = .ok (.iload_n 2, 1) := by decide +kernel
theorem d12_wins_11 : decode b12_wins 11 = .ok (.goto 7, 3) := by decide +kernel
theorem d12_wins_14 : decode b12_wins 14 = .ok (.aload_n 0, 1) := by decide +kernel
theorem d12_wins_15 : decode b12_wins 15 = .ok (.getfield 361, 3) := by decide +kernel
theorem d12_wins_18 : decode b12_wins 18 = .ok (.ireturn, 1) := by decide +kernel
theorem mc12_whyNotSet : Cond.code y12_whyNotSet b12_whyNotSet 4 (some .int) ∈ ce_cm := ce_cm_of (List.mem_of_getElem? (i := 1590) (by decide +kernel)) (by decide +kernel)
theorem ml_12_367 : Cond.methodLink cn_12 367 y12_whyNotSet ∈ ce_cm := ce_cm_of (List.mem_of_getElem? (i := 1587) (by decide +kernel)) (by decide +kernel)
theorem mi12_whyNotSet : Cond.instanceMethod y12_whyNotSet ∈ ce_cm := ce_cm_of (List.mem_of_getElem? (i := 1589) (by decide +kernel)) (by decide +kernel)
theorem ms12_whyNotSet : Cond.selects cn_12 y12_whyNotSet y12_whyNotSet ∈ ce_cm := ce_cm_of (List.mem_of_getElem? (i := 82) (by decide +kernel)) (by decide +kernel)
def f12_wins (F : Nat) (x1 : Int32) (h : Hp) : Option (Int32 × Hp) :=
  Option.bind (f12_whyNotSet F x1 h) (fun o2 =>
    if 0 ≤ o2.1 then
      some (o2.2 68 41, o2.2)
    else
      some (o2.1, o2.2))
set_option maxRecDepth 20000 in
theorem c12_wins (l : Launch) (D : va_G) (ad : Nat → Nat) (cA : Nat → ClassId) (aK aV : Nat → Nat) (B0 : Nat) (hA : ce_Ad ad B0) (F : Nat) (x1 : Int32)  (h : Hp) (r : Int32 × Hp) (e : f12_wins F x1 h = some r) : ce_Ct l D ad cA B0 (ce_St aK aV B0) y12_wins b12_wins 3 (some .int) 16 414 0 0 [.ref (ad 68), .int x1] h (some (.int r.1)) r.2 := by
  refine ce_enter hA (by decide) rfl (Nat.le_of_ble_eq_true rfl) (fun p e0 s m below meth c ls C hH hl => ?_)
  have hl : lv_has ls 3 [(0, .ref (ad 68)), (1, .int x1)] := hl
  have hx := C.1
  have hb := C.2.1
  have e : Option.bind _ some = some r := (congrArg (fun z => Option.bind z some) e).trans rfl
  unfold f12_wins at e
  refine lv_aload_n hx hb d12_wins_0 rfl (lv_at hl 0 rfl) ?_
  refine lv_iload_n hx hb d12_wins_1 rfl (lv_at hl 1 rfl) ?_
  obtain ⟨o2, eo2, e⟩ := ce_bd e
  refine ce_callV (As := [.int x1]) (rest := []) C (ce_sok aK aV B0) hH (c12_whyNotSet l D ad cA aK aV B0 C.2.2.2.2.2.2.1 F x1  h o2 eo2) lo_68.1 lo_68.2.choose_spec rfl rfl mc12_whyNotSet ml_12_367 mi12_whyNotSet ms12_whyNotSet mI_12 (n := 1) (by decide) rfl ⟨Nat.le_of_ble_eq_true rfl, Nat.le_of_ble_eq_true rfl⟩ ⟨Nat.le_of_ble_eq_true rfl, Nat.le_of_ble_eq_true rfl⟩ hl.1 rfl (Nat.le_of_ble_eq_true rfl) d12_wins_2 (fun H locs hH => ?_)
  refine W.eq (g2 := F0 m 5 ls [.int o2.1]) rfl ?_
  refine lv_istore_n (lv' := [(2, .int o2.1), (0, .ref (ad 68)), (1, .int x1)]) hx hb d12_wins_5 rfl hl (by decide) rfl (fun ls hl => ?_)
  refine lv_iload_n hx hb d12_wins_6 rfl (lv_at hl 0 rfl) ?_
  refine lv_if_ge (tgt := 14) hx hb d12_wins_7 (by decide) (fun hc7 => ?_) (fun hc7 => ?_)
  · have e := ce_if1 e hc7
    refine lv_aload_n hx hb d12_wins_14 rfl (lv_at hl 1 rfl) ?_
    refine gf_12_361 C hH d12_wins_15 ?_
    exact ce_iretE C (ce_sok aK aV B0) hH e d12_wins_18
  · have e := ce_if0 e hc7
    refine lv_iload_n hx hb d12_wins_10 rfl (lv_at hl 0 rfl) ?_
    refine lv_goto (tgt := 18) hx hb d12_wins_11 (by decide) ?_
    exact ce_iretE C (ce_sok aK aV B0) hH e d12_wins_18
abbrev b12_grant : ByteArray := prog_14_method_88_code
def y12_grant : MethodName := ⟨cn_12, "grant", "(I)I"⟩
theorem d12_grant_0 : decode b12_grant 0 = .ok (.aload_n 0, 1) := by decide +kernel
theorem d12_grant_1 : decode b12_grant 1 = .ok (.iload_n 1, 1) := by decide +kernel
theorem d12_grant_2 : decode b12_grant 2 = .ok (.invokevirtual 367, 3) := by decide +kernel
theorem d12_grant_5 : decode b12_grant 5 = .ok (.istore_n 2, 1) := by decide +kernel
theorem d12_grant_6 : decode b12_grant 6 = .ok (.iload_n 2, 1) := by decide +kernel
theorem d12_grant_7 : decode b12_grant 7 = .ok (.ifCond .ge 7, 3) := by decide +kernel
theorem d12_grant_10 : decode b12_grant 10 = .ok (.iload_n 2, 1) := by decide +kernel
theorem d12_grant_11 : decode b12_grant 11 = .ok (.goto 7, 3) := by decide +kernel
theorem d12_grant_14 : decode b12_grant 14 = .ok (.aload_n 0, 1) := by decide +kernel
theorem d12_grant_15 : decode b12_grant 15 = .ok (.getfield 364, 3) := by decide +kernel
theorem d12_grant_18 : decode b12_grant 18 = .ok (.ireturn, 1) := by decide +kernel
def f12_grant (F : Nat) (x1 : Int32) (h : Hp) : Option (Int32 × Hp) :=
  Option.bind (f12_whyNotSet F x1 h) (fun o2 =>
    if 0 ≤ o2.1 then
      some (o2.2 68 42, o2.2)
    else
      some (o2.1, o2.2))
set_option maxRecDepth 20000 in
theorem c12_grant (l : Launch) (D : va_G) (ad : Nat → Nat) (cA : Nat → ClassId) (aK aV : Nat → Nat) (B0 : Nat) (hA : ce_Ad ad B0) (F : Nat) (x1 : Int32)  (h : Hp) (r : Int32 × Hp) (e : f12_grant F x1 h = some r) : ce_Ct l D ad cA B0 (ce_St aK aV B0) y12_grant b12_grant 3 (some .int) 16 414 0 0 [.ref (ad 68), .int x1] h (some (.int r.1)) r.2 := by
  refine ce_enter hA (by decide) rfl (Nat.le_of_ble_eq_true rfl) (fun p e0 s m below meth c ls C hH hl => ?_)
  have hl : lv_has ls 3 [(0, .ref (ad 68)), (1, .int x1)] := hl
  have hx := C.1
  have hb := C.2.1
  have e : Option.bind _ some = some r := (congrArg (fun z => Option.bind z some) e).trans rfl
  unfold f12_grant at e
  refine lv_aload_n hx hb d12_grant_0 rfl (lv_at hl 0 rfl) ?_
  refine lv_iload_n hx hb d12_grant_1 rfl (lv_at hl 1 rfl) ?_
  obtain ⟨o2, eo2, e⟩ := ce_bd e
  refine ce_callV (As := [.int x1]) (rest := []) C (ce_sok aK aV B0) hH (c12_whyNotSet l D ad cA aK aV B0 C.2.2.2.2.2.2.1 F x1  h o2 eo2) lo_68.1 lo_68.2.choose_spec rfl rfl mc12_whyNotSet ml_12_367 mi12_whyNotSet ms12_whyNotSet mI_12 (n := 1) (by decide) rfl ⟨Nat.le_of_ble_eq_true rfl, Nat.le_of_ble_eq_true rfl⟩ ⟨Nat.le_of_ble_eq_true rfl, Nat.le_of_ble_eq_true rfl⟩ hl.1 rfl (Nat.le_of_ble_eq_true rfl) d12_grant_2 (fun H locs hH => ?_)
  refine W.eq (g2 := F0 m 5 ls [.int o2.1]) rfl ?_
  refine lv_istore_n (lv' := [(2, .int o2.1), (0, .ref (ad 68)), (1, .int x1)]) hx hb d12_grant_5 rfl hl (by decide) rfl (fun ls hl => ?_)
  refine lv_iload_n hx hb d12_grant_6 rfl (lv_at hl 0 rfl) ?_
  refine lv_if_ge (tgt := 14) hx hb d12_grant_7 (by decide) (fun hc7 => ?_) (fun hc7 => ?_)
  · have e := ce_if1 e hc7
    refine lv_aload_n hx hb d12_grant_14 rfl (lv_at hl 1 rfl) ?_
    refine gf_12_364 C hH d12_grant_15 ?_
    exact ce_iretE C (ce_sok aK aV B0) hH e d12_grant_18
  · have e := ce_if0 e hc7
    refine lv_iload_n hx hb d12_grant_10 rfl (lv_at hl 0 rfl) ?_
    refine lv_goto (tgt := 18) hx hb d12_grant_11 (by decide) ?_
    exact ce_iretE C (ce_sok aK aV B0) hH e d12_grant_18
abbrev b12_turn : ByteArray := prog_14_method_89_code
def y12_turn : MethodName := ⟨cn_12, "turn", "(II)I"⟩
theorem d12_turn_0 : decode b12_turn 0 = .ok (.aload_n 0, 1) := by decide +kernel
theorem d12_turn_1 : decode b12_turn 1 = .ok (.iload_n 1, 1) := by decide +kernel
theorem d12_turn_2 : decode b12_turn 2 = .ok (.invokevirtual 367, 3) := by decide +kernel
theorem d12_turn_5 : decode b12_turn 5 = .ok (.istore_n 3, 1) := by decide +kernel
theorem d12_turn_6 : decode b12_turn 6 = .ok (.iload_n 3, 1) := by decide +kernel
theorem d12_turn_7 : decode b12_turn 7 = .ok (.ifCond .ge 8, 3) := by decide +kernel
theorem d12_turn_10 : decode b12_turn 10 = .ok (.iload_n 3, 1) := by decide +kernel
theorem d12_turn_11 : decode b12_turn 11 = .ok (.iconst (-1), 1) := by decide +kernel
theorem d12_turn_12 : decode b12_turn 12 = .ok (.if_icmp .ne 7, 3) := by decide +kernel
theorem d12_turn_15 : decode b12_turn 15 = .ok (.iload_n 2, 1) := by decide +kernel
theorem d12_turn_16 : decode b12_turn 16 = .ok (.ifCond .ge 21, 3) := by decide +kernel
theorem d12_turn_19 : decode b12_turn 19 = .ok (.iload_n 3, 1) := by decide +kernel
theorem d12_turn_20 : decode b12_turn 20 = .ok (.bipush (-3), 2) := by decide +kernel
theorem d12_turn_22 : decode b12_turn 22 = .ok (.if_icmp .ne 12, 3) := by decide +kernel
theorem d12_turn_25 : decode b12_turn 25 = .ok (.iload_n 2, 1) := by decide +kernel
theorem d12_turn_26 : decode b12_turn 26 = .ok (.ifCond .lt 8, 3) := by decide +kernel
theorem d12_turn_29 : decode b12_turn 29 = .ok (.bipush (-3), 2) := by decide +kernel
theorem d12_turn_31 : decode b12_turn 31 = .ok (.goto 5, 3) := by decide +kernel
theorem d12_turn_34 : decode b12_turn 34 = .ok (.bipush (-2), 2) := by decide +kernel
theorem d12_turn_36 : decode b12_turn 36 = .ok (.ireturn, 1) := by decide +kernel
theorem d12_turn_37 : decode b12_turn 37 = .ok (.iload_n 1, 1) := by decide +kernel
theorem d12_turn_38 : decode b12_turn 38 = .ok (.istore 4, 2) := by decide +kernel
theorem d12_turn_40 : decode b12_turn 40 = .ok (.iload_n 2, 1) := by decide +kernel
theorem d12_turn_41 : decode b12_turn 41 = .ok (.istore 5, 2) := by decide +kernel
theorem d12_turn_43 : decode b12_turn 43 = .ok (.iload 4, 2) := by decide +kernel
theorem d12_turn_45 : decode b12_turn 45 = .ok (.ifCond .eq 38, 3) := by decide +kernel
theorem d12_turn_48 : decode b12_turn 48 = .ok (.aload_n 0, 1) := by decide +kernel
theorem d12_turn_49 : decode b12_turn 49 = .ok (.iload 4, 2) := by decide +kernel
theorem d12_turn_51 : decode b12_turn 51 = .ok (.invokevirtual 358, 3) := by decide +kernel
theorem d12_turn_54 : decode b12_turn 54 = .ok (.iload 5, 2) := by decide +kernel
theorem d12_turn_56 : decode b12_turn 56 = .ok (.ifCond .ne 8, 3) := by decide +kernel
theorem d12_turn_59 : decode b12_turn 59 = .ok (.aload_n 0, 1) := by decide +kernel
theorem d12_turn_60 : decode b12_turn 60 = .ok (.getfield 361, 3) := by decide +kernel
theorem d12_turn_63 : decode b12_turn 63 = .ok (.ireturn, 1) := by decide +kernel
theorem d12_turn_64 : decode b12_turn 64 = .ok (.iinc 5 (-1), 3) := by decide +kernel
theorem d12_turn_67 : decode b12_turn 67 = .ok (.iload 4, 2) := by decide +kernel
theorem d12_turn_69 : decode b12_turn 69 = .ok (.iconst 1, 1) := by decide +kernel
theorem d12_turn_70 : decode b12_turn 70 = .ok (.aload_n 0, 1) := by decide +kernel
theorem d12_turn_71 : decode b12_turn 71 = .ok (.getfield 361, 3) := by decide +kernel
theorem d12_turn_74 : decode b12_turn 74 = .ok (.ishl, 1) := by decide +kernel
theorem d12_turn_75 : decode b12_turn 75 = .ok (.iconst (-1), 1) := by decide +kernel
theorem d12_turn_76 : decode b12_turn 76 = .ok (.ixor, 1) := by decide +kernel
theorem d12_turn_77 : decode b12_turn 77 = .ok (.iand, 1) := by decide +kernel
theorem d12_turn_78 : decode b12_turn 78 = .ok (.istore 4, 2) := by decide +kernel
theorem d12_turn_80 : decode b12_turn 80 = .ok (.goto (-37), 3) := by decide +kernel
theorem d12_turn_83 : decode b12_turn 83 = .ok (.iconst (-1), 1) := by decide +kernel
theorem d12_turn_84 : decode b12_turn 84 = .ok (.ireturn, 1) := by decide +kernel
def f12_turn_b43 (F : Nat) (x4 : Int32) (x5 : Int32) (h : Hp) : Option ((Int32 × Int32 × Hp) ⊕ ((Int32 × Hp) ⊕ (Hp))) :=
  if x4 = 0 then
    some (.inr (.inr h))
  else
    Option.bind (f12_winsOf F x4 h) (fun o51 =>
      if x5 = 0 then
        some (.inr (.inl (o51 68 41, o51)))
      else
        some (.inl (x4 &&& (((1 : Int32) <<< ((o51 68 41) &&& 31)) ^^^ (-1 : Int32)), x5 + (-1 : Int32), o51)))
set_option maxRecDepth 20000 in
theorem l12_turn_43 (C : ce_Cx p s m args c meth b12_turn 6 (some .int) cn_12 D ad cA B0 (ce_St aK aV B0)) (F : Nat)   (r : Int32 × Hp) (g : ((Int32 × Hp) ⊕ (Hp)) → Option (Int32 × Hp)) (hx : ∀  (h : Hp) (H : Heap) (locs : List Loc) (ls : Array Slot), ce_H D ad cA B0 [] s h H locs → lv_has ls 6 [] → g (.inr h) = some r → W p l e0 { frames := 16, cells := 0, slots := 0, locals := 414 } s m args below meth c H locs 0 0 (MQ below (ce_Q D ad cA B0 (ce_St aK aV B0) (some (.int r.1)) r.2) args s 0 0 (fun q => B0 ≤ q)) (F0 m 83 ls [])) (he : ∀ z, g (.inl z) = some z) : ∀ (n : Nat) (x4 : Int32) (x5 : Int32) (h : Hp) (H : Heap) (locs : List Loc) (ls : Array Slot), ce_H D ad cA B0 [] s h H locs → lv_has ls 6 [(0, .ref (ad 68)), (4, .int x4), (5, .int x5)] → Option.bind (ce_it (fun (st : Int32 × Int32 × Hp) => f12_turn_b43 F  st.1 st.2.1 st.2.2) n (x4, x5, h)) g = some r → W p l e0 { frames := 16, cells := 0, slots := 0, locals := 414 } s m args below meth c H locs 0 0 (MQ below (ce_Q D ad cA B0 (ce_St aK aV B0) (some (.int r.1)) r.2) args s 0 0 (fun q => B0 ≤ q)) (F0 m 43 ls []) := by
  intro n
  induction n with
  | zero =>
    intro x4 x5 h H locs ls hH hl e
    exact absurd e (fun z => by cases z)
  | succ n ih =>
    intro x4 x5 h H locs ls hH hl e
    have hx9 := C.1
    have hb := C.2.1
    have e : Option.bind (f12_turn_b43 F  x4 x5 h) _ = some r := ce_it_bd e
    unfold f12_turn_b43 at e
    refine lv_iload hx9 hb d12_turn_43 (lv_at hl 1 rfl) ?_
    refine lv_if_eq (tgt := 83) hx9 hb d12_turn_45 (by decide) (fun hc45 => ?_) (fun hc45 => ?_)
    · have e := ce_if1 e hc45
      exact hx  h _ _ _ hH (lv_sub hl [] rfl) e
    · have e := ce_if0 e hc45
      refine lv_aload_n hx9 hb d12_turn_48 rfl (lv_at hl 0 rfl) ?_
      refine lv_iload hx9 hb d12_turn_49 (lv_at hl 1 rfl) ?_
      obtain ⟨o51, eo51, e⟩ := ce_bd e
      refine ce_callV (As := [.int x4]) (rest := []) C (ce_sok aK aV B0) hH (c12_winsOf l D ad cA aK aV B0 C.2.2.2.2.2.2.1 F x4  h o51 eo51) lo_68.1 lo_68.2.choose_spec rfl rfl mc12_winsOf ml_12_358 mi12_winsOf ms12_winsOf mI_12 (n := 1) (by decide) rfl ⟨Nat.le_of_ble_eq_true rfl, Nat.le_of_ble_eq_true rfl⟩ ⟨Nat.le_of_ble_eq_true rfl, Nat.le_of_ble_eq_true rfl⟩ hl.1 rfl (Nat.le_of_ble_eq_true rfl) d12_turn_51 (fun H locs hH => ?_)
      refine W.eq (g2 := F0 m 54 ls []) rfl ?_
      refine lv_iload hx9 hb d12_turn_54 (lv_at hl 2 rfl) ?_
      refine lv_if_ne (tgt := 64) hx9 hb d12_turn_56 (by decide) (fun hc56 => ?_) (fun hc56 => ?_)
      · have e := ce_if0 e hc56
        refine lv_iinc (v := x5 + (-1 : Int32)) (lv' := [(5, .int (x5 + (-1 : Int32))), (0, .ref (ad 68)), (4, .int x4)]) hx9 hb d12_turn_64 hl (k := 2) rfl rfl (by decide) rfl (fun ls hl => ?_)
        refine lv_iload hx9 hb d12_turn_67 (lv_at hl 2 rfl) ?_
        refine lv_iconst (v := (1 : Int32)) hx9 hb d12_turn_69 (by decide) ?_
        refine lv_aload_n hx9 hb d12_turn_70 rfl (lv_at hl 1 rfl) ?_
        refine gf_12_361 C hH d12_turn_71 ?_
        refine lv_ishl hx9 hb d12_turn_74 ?_
        refine lv_iconst (v := (-1 : Int32)) hx9 hb d12_turn_75 (by decide) ?_
        refine lv_ixor hx9 hb d12_turn_76 ?_
        refine lv_iand hx9 hb d12_turn_77 ?_
        refine lv_istore (lv' := [(4, .int (x4 &&& (((1 : Int32) <<< ((o51 68 41) &&& 31)) ^^^ (-1 : Int32)))), (5, .int (x5 + (-1 : Int32))), (0, .ref (ad 68))]) hx9 hb d12_turn_78 hl (by decide) rfl (fun ls hl => ?_)
        refine lv_goto (tgt := 43) hx9 hb d12_turn_80 (by decide) ?_
        exact ih (x4 &&& (((1 : Int32) <<< ((o51 68 41) &&& 31)) ^^^ (-1 : Int32))) (x5 + (-1 : Int32)) o51 _ _ _ hH (lv_sub hl [2, 0, 1] rfl) e
      · have e := ce_if1 e hc56
        refine lv_aload_n hx9 hb d12_turn_59 rfl (lv_at hl 0 rfl) ?_
        refine gf_12_361 C hH d12_turn_60 ?_
        have e := (he _).symm.trans e
        exact ce_iretE C (ce_sok aK aV B0) hH e d12_turn_63
def f12_turn (F : Nat) (x1 : Int32) (x2 : Int32) (h : Hp) : Option (Int32 × Hp) :=
  Option.bind (f12_whyNotSet F x1 h) (fun o2 =>
    if 0 ≤ o2.1 then
      if 0 ≤ x2 then
        Option.bind (ce_it (fun (st : Int32 × Int32 × Hp) => f12_turn_b43 F  st.1 st.2.1 st.2.2) F (x1, x2, o2.2)) (fun o43w => match o43w with
          | .inl z => some z
          | .inr o43 =>
            some ((-1 : Int32), o43))
      else
        if o2.1 = (-3 : Int32) then
          if x2 < 0 then
            some ((-2 : Int32), o2.2)
          else
            some ((-3 : Int32), o2.2)
        else
          some ((-2 : Int32), o2.2)
    else
      if o2.1 = (-1 : Int32) then
        if 0 ≤ x2 then
          Option.bind (ce_it (fun (st : Int32 × Int32 × Hp) => f12_turn_b43 F  st.1 st.2.1 st.2.2) F (x1, x2, o2.2)) (fun o43w => match o43w with
            | .inl z => some z
            | .inr o43 =>
              some ((-1 : Int32), o43))
        else
          if o2.1 = (-3 : Int32) then
            if x2 < 0 then
              some ((-2 : Int32), o2.2)
            else
              some ((-3 : Int32), o2.2)
          else
            some ((-2 : Int32), o2.2)
      else
        if o2.1 = (-3 : Int32) then
          if x2 < 0 then
            some ((-2 : Int32), o2.2)
          else
            some ((-3 : Int32), o2.2)
        else
          some ((-2 : Int32), o2.2))
set_option maxRecDepth 20000 in
theorem c12_turn (l : Launch) (D : va_G) (ad : Nat → Nat) (cA : Nat → ClassId) (aK aV : Nat → Nat) (B0 : Nat) (hA : ce_Ad ad B0) (F : Nat) (x1 : Int32) (x2 : Int32)  (h : Hp) (r : Int32 × Hp) (e : f12_turn F x1 x2 h = some r) : ce_Ct l D ad cA B0 (ce_St aK aV B0) y12_turn b12_turn 6 (some .int) 16 414 0 0 [.ref (ad 68), .int x1, .int x2] h (some (.int r.1)) r.2 := by
  refine ce_enter hA (by decide) rfl (Nat.le_of_ble_eq_true rfl) (fun p e0 s m below meth c ls C hH hl => ?_)
  have hl : lv_has ls 6 [(0, .ref (ad 68)), (1, .int x1), (2, .int x2)] := hl
  have hx := C.1
  have hb := C.2.1
  have e : Option.bind _ some = some r := (congrArg (fun z => Option.bind z some) e).trans rfl
  unfold f12_turn at e
  refine lv_aload_n hx hb d12_turn_0 rfl (lv_at hl 0 rfl) ?_
  refine lv_iload_n hx hb d12_turn_1 rfl (lv_at hl 1 rfl) ?_
  obtain ⟨o2, eo2, e⟩ := ce_bd e
  refine ce_callV (As := [.int x1]) (rest := []) C (ce_sok aK aV B0) hH (c12_whyNotSet l D ad cA aK aV B0 C.2.2.2.2.2.2.1 F x1  h o2 eo2) lo_68.1 lo_68.2.choose_spec rfl rfl mc12_whyNotSet ml_12_367 mi12_whyNotSet ms12_whyNotSet mI_12 (n := 1) (by decide) rfl ⟨Nat.le_of_ble_eq_true rfl, Nat.le_of_ble_eq_true rfl⟩ ⟨Nat.le_of_ble_eq_true rfl, Nat.le_of_ble_eq_true rfl⟩ hl.1 rfl (Nat.le_of_ble_eq_true rfl) d12_turn_2 (fun H locs hH => ?_)
  refine W.eq (g2 := F0 m 5 ls [.int o2.1]) rfl ?_
  refine lv_istore_n (lv' := [(3, .int o2.1), (0, .ref (ad 68)), (1, .int x1), (2, .int x2)]) hx hb d12_turn_5 rfl hl (by decide) rfl (fun ls hl => ?_)
  refine lv_iload_n hx hb d12_turn_6 rfl (lv_at hl 0 rfl) ?_
  refine lv_if_ge (tgt := 15) hx hb d12_turn_7 (by decide) (fun hc7 => ?_) (fun hc7 => ?_)
  · have e := ce_if1 e hc7
    refine lv_iload_n hx hb d12_turn_15 rfl (lv_at hl 3 rfl) ?_
    refine lv_if_ge (tgt := 37) hx hb d12_turn_16 (by decide) (fun hc16 => ?_) (fun hc16 => ?_)
    · have e := ce_if1 e hc16
      refine lv_iload_n hx hb d12_turn_37 rfl (lv_at hl 2 rfl) ?_
      refine lv_istore (lv' := [(4, .int x1), (3, .int o2.1), (0, .ref (ad 68)), (1, .int x1), (2, .int x2)]) hx hb d12_turn_38 hl (by decide) rfl (fun ls hl => ?_)
      refine lv_iload_n hx hb d12_turn_40 rfl (lv_at hl 4 rfl) ?_
      refine lv_istore (lv' := [(5, .int x2), (4, .int x1), (3, .int o2.1), (0, .ref (ad 68)), (1, .int x1), (2, .int x2)]) hx hb d12_turn_41 hl (by decide) rfl (fun ls hl => ?_)
      refine l12_turn_43 C F   r _ (fun  h_43 H locs ls hH hl e => ?_) (fun z => rfl) F x1 x2 o2.2 _ _ _ hH (lv_sub hl [3, 1, 0] rfl) (ce_as e)
      try dsimp only at e
      refine lv_iconst (v := (-1 : Int32)) hx hb d12_turn_83 (by decide) ?_
      exact ce_iretE C (ce_sok aK aV B0) hH e d12_turn_84
    · have e := ce_if0 e hc16
      refine lv_iload_n hx hb d12_turn_19 rfl (lv_at hl 0 rfl) ?_
      refine lv_bipush (v := (-3 : Int32)) hx hb d12_turn_20 (by decide) ?_
      refine lv_icmp_ne (tgt := 34) hx hb d12_turn_22 (by decide) (fun hc22 => ?_) (fun hc22 => ?_)
      · have e := ce_if0 e hc22
        refine lv_bipush (v := (-2 : Int32)) hx hb d12_turn_34 (by decide) ?_
        exact ce_iretE C (ce_sok aK aV B0) hH e d12_turn_36
      · have e := ce_if1 e hc22
        refine lv_iload_n hx hb d12_turn_25 rfl (lv_at hl 3 rfl) ?_
        refine lv_if_lt (tgt := 34) hx hb d12_turn_26 (by decide) (fun hc26 => ?_) (fun hc26 => ?_)
        · have e := ce_if1 e hc26
          refine lv_bipush (v := (-2 : Int32)) hx hb d12_turn_34 (by decide) ?_
          exact ce_iretE C (ce_sok aK aV B0) hH e d12_turn_36
        · have e := ce_if0 e hc26
          refine lv_bipush (v := (-3 : Int32)) hx hb d12_turn_29 (by decide) ?_
          refine lv_goto (tgt := 36) hx hb d12_turn_31 (by decide) ?_
          exact ce_iretE C (ce_sok aK aV B0) hH e d12_turn_36
  · have e := ce_if0 e hc7
    refine lv_iload_n hx hb d12_turn_10 rfl (lv_at hl 0 rfl) ?_
    refine lv_iconst (v := (-1 : Int32)) hx hb d12_turn_11 (by decide) ?_
    refine lv_icmp_ne (tgt := 19) hx hb d12_turn_12 (by decide) (fun hc12 => ?_) (fun hc12 => ?_)
    · have e := ce_if0 e hc12
      refine lv_iload_n hx hb d12_turn_19 rfl (lv_at hl 0 rfl) ?_
      refine lv_bipush (v := (-3 : Int32)) hx hb d12_turn_20 (by decide) ?_
      refine lv_icmp_ne (tgt := 34) hx hb d12_turn_22 (by decide) (fun hc22 => ?_) (fun hc22 => ?_)
      · have e := ce_if0 e hc22
        refine lv_bipush (v := (-2 : Int32)) hx hb d12_turn_34 (by decide) ?_
        exact ce_iretE C (ce_sok aK aV B0) hH e d12_turn_36
      · have e := ce_if1 e hc22
        refine lv_iload_n hx hb d12_turn_25 rfl (lv_at hl 3 rfl) ?_
        refine lv_if_lt (tgt := 34) hx hb d12_turn_26 (by decide) (fun hc26 => ?_) (fun hc26 => ?_)
        · have e := ce_if1 e hc26
          refine lv_bipush (v := (-2 : Int32)) hx hb d12_turn_34 (by decide) ?_
          exact ce_iretE C (ce_sok aK aV B0) hH e d12_turn_36
        · have e := ce_if0 e hc26
          refine lv_bipush (v := (-3 : Int32)) hx hb d12_turn_29 (by decide) ?_
          refine lv_goto (tgt := 36) hx hb d12_turn_31 (by decide) ?_
          exact ce_iretE C (ce_sok aK aV B0) hH e d12_turn_36
    · have e := ce_if1 e hc12
      refine lv_iload_n hx hb d12_turn_15 rfl (lv_at hl 3 rfl) ?_
      refine lv_if_ge (tgt := 37) hx hb d12_turn_16 (by decide) (fun hc16 => ?_) (fun hc16 => ?_)
      · have e := ce_if1 e hc16
        refine lv_iload_n hx hb d12_turn_37 rfl (lv_at hl 2 rfl) ?_
        refine lv_istore (lv' := [(4, .int x1), (3, .int o2.1), (0, .ref (ad 68)), (1, .int x1), (2, .int x2)]) hx hb d12_turn_38 hl (by decide) rfl (fun ls hl => ?_)
        refine lv_iload_n hx hb d12_turn_40 rfl (lv_at hl 4 rfl) ?_
        refine lv_istore (lv' := [(5, .int x2), (4, .int x1), (3, .int o2.1), (0, .ref (ad 68)), (1, .int x1), (2, .int x2)]) hx hb d12_turn_41 hl (by decide) rfl (fun ls hl => ?_)
        refine l12_turn_43 C F   r _ (fun  h_43 H locs ls hH hl e => ?_) (fun z => rfl) F x1 x2 o2.2 _ _ _ hH (lv_sub hl [3, 1, 0] rfl) (ce_as e)
        try dsimp only at e
        refine lv_iconst (v := (-1 : Int32)) hx hb d12_turn_83 (by decide) ?_
        exact ce_iretE C (ce_sok aK aV B0) hH e d12_turn_84
      · have e := ce_if0 e hc16
        refine lv_iload_n hx hb d12_turn_19 rfl (lv_at hl 0 rfl) ?_
        refine lv_bipush (v := (-3 : Int32)) hx hb d12_turn_20 (by decide) ?_
        refine lv_icmp_ne (tgt := 34) hx hb d12_turn_22 (by decide) (fun hc22 => ?_) (fun hc22 => ?_)
        · have e := ce_if0 e hc22
          refine lv_bipush (v := (-2 : Int32)) hx hb d12_turn_34 (by decide) ?_
          exact ce_iretE C (ce_sok aK aV B0) hH e d12_turn_36
        · have e := ce_if1 e hc22
          refine lv_iload_n hx hb d12_turn_25 rfl (lv_at hl 3 rfl) ?_
          refine lv_if_lt (tgt := 34) hx hb d12_turn_26 (by decide) (fun hc26 => ?_) (fun hc26 => ?_)
          · have e := ce_if1 e hc26
            refine lv_bipush (v := (-2 : Int32)) hx hb d12_turn_34 (by decide) ?_
            exact ce_iretE C (ce_sok aK aV B0) hH e d12_turn_36
          · have e := ce_if0 e hc26
            refine lv_bipush (v := (-3 : Int32)) hx hb d12_turn_29 (by decide) ?_
            refine lv_goto (tgt := 36) hx hb d12_turn_31 (by decide) ?_
            exact ce_iretE C (ce_sok aK aV B0) hH e d12_turn_36
abbrev b12_fair : ByteArray := prog_14_method_90_code
def y12_fair : MethodName := ⟨cn_12, "fair", "(I)I"⟩
theorem d12_fair_0 : decode b12_fair 0 = .ok (.aload_n 0, 1) := by decide +kernel
theorem d12_fair_1 : decode b12_fair 1 = .ok (.iload_n 1, 1) := by decide +kernel
theorem d12_fair_2 : decode b12_fair 2 = .ok (.invokevirtual 367, 3) := by decide +kernel
theorem d12_fair_5 : decode b12_fair 5 = .ok (.istore_n 2, 1) := by decide +kernel
theorem d12_fair_6 : decode b12_fair 6 = .ok (.iload_n 2, 1) := by decide +kernel
theorem d12_fair_7 : decode b12_fair 7 = .ok (.bipush (-2), 2) := by decide +kernel
theorem d12_fair_9 : decode b12_fair 9 = .ok (.if_icmp .eq 9, 3) := by decide +kernel
theorem d12_fair_12 : decode b12_fair 12 = .ok (.iload_n 2, 1) := by decide +kernel
theorem d12_fair_13 : decode b12_fair 13 = .ok (.bipush (-3), 2) := by decide +kernel
theorem d12_fair_15 : decode b12_fair 15 = .ok (.if_icmp .ne 5, 3) := by decide +kernel
theorem d12_fair_18 : decode b12_fair 18 = .ok (.iload_n 2, 1) := by decide +kernel
theorem d12_fair_19 : decode b12_fair 19 = .ok (.ireturn, 1) := by decide +kernel
theorem d12_fair_20 : decode b12_fair 20 = .ok (.iconst 0, 1) := by decide +kernel
theorem d12_fair_21 : decode b12_fair 21 = .ok (.istore_n 3, 1) := by decide +kernel
theorem d12_fair_22 : decode b12_fair 22 = .ok (.iload_n 1, 1) := by decide +kernel
theorem d12_fair_23 : decode b12_fair 23 = .ok (.istore 4, 2) := by decide +kernel
theorem d12_fair_25 : decode b12_fair 25 = .ok (.iload 4, 2) := by decide +kernel
theorem d12_fair_27 : decode b12_fair 27 = .ok (.ifCond .eq 32, 3) := by decide +kernel
theorem d12_fair_30 : decode b12_fair 30 = .ok (.aload_n 0, 1) := by decide +kernel
theorem d12_fair_31 : decode b12_fair 31 = .ok (.iload 4, 2) := by decide +kernel
theorem d12_fair_33 : decode b12_fair 33 = .ok (.invokevirtual 358, 3) := by decide +kernel
theorem d12_fair_36 : decode b12_fair 36 = .ok (.iload_n 3, 1) := by decide +kernel
theorem d12_fair_37 : decode b12_fair 37 = .ok (.aload_n 0, 1) := by decide +kernel
theorem d12_fair_38 : decode b12_fair 38 = .ok (.getfield 364, 3) := by decide +kernel
theorem d12_fair_41 : decode b12_fair 41 = .ok (.iadd, 1) := by decide +kernel
theorem d12_fair_42 : decode b12_fair 42 = .ok (.istore_n 3, 1) := by decide +kernel
theorem d12_fair_43 : decode b12_fair 43 = .ok (.iload 4, 2) := by decide +kernel
theorem d12_fair_45 : decode b12_fair 45 = .ok (.iconst 1, 1) := by decide +kernel
theorem d12_fair_46 : decode b12_fair 46 = .ok (.aload_n 0, 1) := by decide +kernel
theorem d12_fair_47 : decode b12_fair 47 = .ok (.getfield 361, 3) := by decide +kernel
theorem d12_fair_50 : decode b12_fair 50 = .ok (.ishl, 1) := by decide +kernel
theorem d12_fair_51 : decode b12_fair 51 = .ok (.iconst (-1), 1) := by decide +kernel
theorem d12_fair_52 : decode b12_fair 52 = .ok (.ixor, 1) := by decide +kernel
theorem d12_fair_53 : decode b12_fair 53 = .ok (.iand, 1) := by decide +kernel
theorem d12_fair_54 : decode b12_fair 54 = .ok (.istore 4, 2) := by decide +kernel
theorem d12_fair_56 : decode b12_fair 56 = .ok (.goto (-31), 3) := by decide +kernel
theorem d12_fair_59 : decode b12_fair 59 = .ok (.iload_n 3, 1) := by decide +kernel
theorem d12_fair_60 : decode b12_fair 60 = .ok (.ireturn, 1) := by decide +kernel
def f12_fair_b25 (F : Nat) (x3 : Int32) (x4 : Int32) (h : Hp) : Option ((Int32 × Int32 × Hp) ⊕ (Int32 × Hp)) :=
  if x4 = 0 then
    some (.inr (x3, h))
  else
    Option.bind (f12_winsOf F x4 h) (fun o33 =>
      some (.inl (x3 + (o33 68 42), x4 &&& (((1 : Int32) <<< ((o33 68 41) &&& 31)) ^^^ (-1 : Int32)), o33)))
set_option maxRecDepth 20000 in
theorem l12_fair_25 (C : ce_Cx p s m args c meth b12_fair 5 (some .int) cn_12 D ad cA B0 (ce_St aK aV B0)) (F : Nat)   (r : Int32 × Hp) (g : (Int32 × Hp) → Option (Int32 × Hp)) (hx : ∀ (x3 : Int32) (h : Hp) (H : Heap) (locs : List Loc) (ls : Array Slot), ce_H D ad cA B0 [] s h H locs → lv_has ls 5 [(3, .int x3)] → g (x3, h) = some r → W p l e0 { frames := 16, cells := 0, slots := 0, locals := 414 } s m args below meth c H locs 0 0 (MQ below (ce_Q D ad cA B0 (ce_St aK aV B0) (some (.int r.1)) r.2) args s 0 0 (fun q => B0 ≤ q)) (F0 m 59 ls [])) : ∀ (n : Nat) (x3 : Int32) (x4 : Int32) (h : Hp) (H : Heap) (locs : List Loc) (ls : Array Slot), ce_H D ad cA B0 [] s h H locs → lv_has ls 5 [(0, .ref (ad 68)), (3, .int x3), (4, .int x4)] → Option.bind (ce_it (fun (st : Int32 × Int32 × Hp) => f12_fair_b25 F  st.1 st.2.1 st.2.2) n (x3, x4, h)) g = some r → W p l e0 { frames := 16, cells := 0, slots := 0, locals := 414 } s m args below meth c H locs 0 0 (MQ below (ce_Q D ad cA B0 (ce_St aK aV B0) (some (.int r.1)) r.2) args s 0 0 (fun q => B0 ≤ q)) (F0 m 25 ls []) := by
  intro n
  induction n with
  | zero =>
    intro x3 x4 h H locs ls hH hl e
    exact absurd e (fun z => by cases z)
  | succ n ih =>
    intro x3 x4 h H locs ls hH hl e
    have hx9 := C.1
    have hb := C.2.1
    have e : Option.bind (f12_fair_b25 F  x3 x4 h) _ = some r := ce_it_bd e
    unfold f12_fair_b25 at e
    refine lv_iload hx9 hb d12_fair_25 (lv_at hl 2 rfl) ?_
    refine lv_if_eq (tgt := 59) hx9 hb d12_fair_27 (by decide) (fun hc27 => ?_) (fun hc27 => ?_)
    · have e := ce_if1 e hc27
      exact hx x3 h _ _ _ hH (lv_sub hl [1] rfl) e
    · have e := ce_if0 e hc27
      refine lv_aload_n hx9 hb d12_fair_30 rfl (lv_at hl 0 rfl) ?_
      refine lv_iload hx9 hb d12_fair_31 (lv_at hl 2 rfl) ?_
      obtain ⟨o33, eo33, e⟩ := ce_bd e
      refine ce_callV (As := [.int x4]) (rest := []) C (ce_sok aK aV B0) hH (c12_winsOf l D ad cA aK aV B0 C.2.2.2.2.2.2.1 F x4  h o33 eo33) lo_68.1 lo_68.2.choose_spec rfl rfl mc12_winsOf ml_12_358 mi12_winsOf ms12_winsOf mI_12 (n := 1) (by decide) rfl ⟨Nat.le_of_ble_eq_true rfl, Nat.le_of_ble_eq_true rfl⟩ ⟨Nat.le_of_ble_eq_true rfl, Nat.le_of_ble_eq_true rfl⟩ hl.1 rfl (Nat.le_of_ble_eq_true rfl) d12_fair_33 (fun H locs hH => ?_)
      refine W.eq (g2 := F0 m 36 ls []) rfl ?_
      refine lv_iload_n hx9 hb d12_fair_36 rfl (lv_at hl 1 rfl) ?_
      refine lv_aload_n hx9 hb d12_fair_37 rfl (lv_at hl 0 rfl) ?_
      refine gf_12_364 C hH d12_fair_38 ?_
      refine lv_iadd hx9 hb d12_fair_41 ?_
      refine lv_istore_n (lv' := [(3, .int (x3 + (o33 68 42))), (0, .ref (ad 68)), (4, .int x4)]) hx9 hb d12_fair_42 rfl hl (by decide) rfl (fun ls hl => ?_)
      refine lv_iload hx9 hb d12_fair_43 (lv_at hl 2 rfl) ?_
      refine lv_iconst (v := (1 : Int32)) hx9 hb d12_fair_45 (by decide) ?_
      refine lv_aload_n hx9 hb d12_fair_46 rfl (lv_at hl 1 rfl) ?_
      refine gf_12_361 C hH d12_fair_47 ?_
      refine lv_ishl hx9 hb d12_fair_50 ?_
      refine lv_iconst (v := (-1 : Int32)) hx9 hb d12_fair_51 (by decide) ?_
      refine lv_ixor hx9 hb d12_fair_52 ?_
      refine lv_iand hx9 hb d12_fair_53 ?_
      refine lv_istore (lv' := [(4, .int (x4 &&& (((1 : Int32) <<< ((o33 68 41) &&& 31)) ^^^ (-1 : Int32)))), (3, .int (x3 + (o33 68 42))), (0, .ref (ad 68))]) hx9 hb d12_fair_54 hl (by decide) rfl (fun ls hl => ?_)
      refine lv_goto (tgt := 25) hx9 hb d12_fair_56 (by decide) ?_
      exact ih (x3 + (o33 68 42)) (x4 &&& (((1 : Int32) <<< ((o33 68 41) &&& 31)) ^^^ (-1 : Int32))) o33 _ _ _ hH (lv_sub hl [2, 1, 0] rfl) e
def f12_fair (F : Nat) (x1 : Int32) (h : Hp) : Option (Int32 × Hp) :=
  Option.bind (f12_whyNotSet F x1 h) (fun o2 =>
    if o2.1 = (-2 : Int32) then
      some (o2.1, o2.2)
    else
      if o2.1 = (-3 : Int32) then
        some (o2.1, o2.2)
      else
        Option.bind (ce_it (fun (st : Int32 × Int32 × Hp) => f12_fair_b25 F  st.1 st.2.1 st.2.2) F ((0 : Int32), x1, o2.2)) (fun o25 =>
          some (o25.1, o25.2)))
set_option maxRecDepth 20000 in
theorem c12_fair (l : Launch) (D : va_G) (ad : Nat → Nat) (cA : Nat → ClassId) (aK aV : Nat → Nat) (B0 : Nat) (hA : ce_Ad ad B0) (F : Nat) (x1 : Int32)  (h : Hp) (r : Int32 × Hp) (e : f12_fair F x1 h = some r) : ce_Ct l D ad cA B0 (ce_St aK aV B0) y12_fair b12_fair 5 (some .int) 16 414 0 0 [.ref (ad 68), .int x1] h (some (.int r.1)) r.2 := by
  refine ce_enter hA (by decide) rfl (Nat.le_of_ble_eq_true rfl) (fun p e0 s m below meth c ls C hH hl => ?_)
  have hl : lv_has ls 5 [(0, .ref (ad 68)), (1, .int x1)] := hl
  have hx := C.1
  have hb := C.2.1
  have e : Option.bind _ some = some r := (congrArg (fun z => Option.bind z some) e).trans rfl
  unfold f12_fair at e
  refine lv_aload_n hx hb d12_fair_0 rfl (lv_at hl 0 rfl) ?_
  refine lv_iload_n hx hb d12_fair_1 rfl (lv_at hl 1 rfl) ?_
  obtain ⟨o2, eo2, e⟩ := ce_bd e
  refine ce_callV (As := [.int x1]) (rest := []) C (ce_sok aK aV B0) hH (c12_whyNotSet l D ad cA aK aV B0 C.2.2.2.2.2.2.1 F x1  h o2 eo2) lo_68.1 lo_68.2.choose_spec rfl rfl mc12_whyNotSet ml_12_367 mi12_whyNotSet ms12_whyNotSet mI_12 (n := 1) (by decide) rfl ⟨Nat.le_of_ble_eq_true rfl, Nat.le_of_ble_eq_true rfl⟩ ⟨Nat.le_of_ble_eq_true rfl, Nat.le_of_ble_eq_true rfl⟩ hl.1 rfl (Nat.le_of_ble_eq_true rfl) d12_fair_2 (fun H locs hH => ?_)
  refine W.eq (g2 := F0 m 5 ls [.int o2.1]) rfl ?_
  refine lv_istore_n (lv' := [(2, .int o2.1), (0, .ref (ad 68)), (1, .int x1)]) hx hb d12_fair_5 rfl hl (by decide) rfl (fun ls hl => ?_)
  refine lv_iload_n hx hb d12_fair_6 rfl (lv_at hl 0 rfl) ?_
  refine lv_bipush (v := (-2 : Int32)) hx hb d12_fair_7 (by decide) ?_
  refine lv_icmp_eq (tgt := 18) hx hb d12_fair_9 (by decide) (fun hc9 => ?_) (fun hc9 => ?_)
  · have e := ce_if1 e hc9
    refine lv_iload_n hx hb d12_fair_18 rfl (lv_at hl 0 rfl) ?_
    exact ce_iretE C (ce_sok aK aV B0) hH e d12_fair_19
  · have e := ce_if0 e hc9
    refine lv_iload_n hx hb d12_fair_12 rfl (lv_at hl 0 rfl) ?_
    refine lv_bipush (v := (-3 : Int32)) hx hb d12_fair_13 (by decide) ?_
    refine lv_icmp_ne (tgt := 20) hx hb d12_fair_15 (by decide) (fun hc15 => ?_) (fun hc15 => ?_)
    · have e := ce_if0 e hc15
      refine lv_iconst (v := (0 : Int32)) hx hb d12_fair_20 (by decide) ?_
      refine lv_istore_n (lv' := [(3, .int (0 : Int32)), (2, .int o2.1), (0, .ref (ad 68)), (1, .int x1)]) hx hb d12_fair_21 rfl hl (by decide) rfl (fun ls hl => ?_)
      refine lv_iload_n hx hb d12_fair_22 rfl (lv_at hl 3 rfl) ?_
      refine lv_istore (lv' := [(4, .int x1), (3, .int (0 : Int32)), (2, .int o2.1), (0, .ref (ad 68)), (1, .int x1)]) hx hb d12_fair_23 hl (by decide) rfl (fun ls hl => ?_)
      refine l12_fair_25 C F   r _ (fun y25_3 h_25 H locs ls hH hl e => ?_) F (0 : Int32) x1 o2.2 _ _ _ hH (lv_sub hl [3, 1, 0] rfl) (ce_as e)
      try dsimp only at e
      refine lv_iload_n hx hb d12_fair_59 rfl (lv_at hl 0 rfl) ?_
      exact ce_iretE C (ce_sok aK aV B0) hH e d12_fair_60
    · have e := ce_if1 e hc15
      refine lv_iload_n hx hb d12_fair_18 rfl (lv_at hl 0 rfl) ?_
      exact ce_iretE C (ce_sok aK aV B0) hH e d12_fair_19
abbrev b12_rootBy : ByteArray := prog_14_method_91_code
def y12_rootBy : MethodName := ⟨cn_12, "rootBy", "(I)I"⟩
theorem d12_rootBy_0 : decode b12_rootBy 0 = .ok (.aload_n 0, 1) := by decide +kernel
theorem d12_rootBy_1 : decode b12_rootBy 1 = .ok (.iload_n 1, 1) := by decide +kernel
theorem d12_rootBy_2 : decode b12_rootBy 2 = .ok (.invokevirtual 220, 3) := by decide +kernel
theorem d12_rootBy_5 : decode b12_rootBy 5 = .ok (.ifCond .ne 6, 3) := by decide +kernel
theorem d12_rootBy_8 : decode b12_rootBy 8 = .ok (.bipush (-2), 2) := by decide +kernel
theorem d12_rootBy_10 : decode b12_rootBy 10 = .ok (.ireturn, 1) := by decide +kernel
theorem d12_rootBy_11 : decode b12_rootBy 11 = .ok (.aload_n 0, 1) := by decide +kernel
theorem d12_rootBy_12 : decode b12_rootBy 12 = .ok (.getfield 7, 3) := by decide +kernel
theorem d12_rootBy_15 : decode b12_rootBy 15 = .ok (.bipush 15, 2) := by decide +kernel
theorem d12_rootBy_17 : decode b12_rootBy 17 = .ok (.iload_n 1, 1) := by decide +kernel
theorem d12_rootBy_18 : decode b12_rootBy 18 = .ok (.iadd, 1) := by decide +kernel
theorem d12_rootBy_19 : decode b12_rootBy 19 = .ok (.iaload, 1) := by decide +kernel
theorem d12_rootBy_20 : decode b12_rootBy 20 = .ok (.istore_n 2, 1) := by decide +kernel
theorem d12_rootBy_21 : decode b12_rootBy 21 = .ok (.aload_n 0, 1) := by decide +kernel
theorem d12_rootBy_22 : decode b12_rootBy 22 = .ok (.getfield 7, 3) := by decide +kernel
theorem d12_rootBy_25 : decode b12_rootBy 25 = .ok (.bipush 15, 2) := by decide +kernel
theorem d12_rootBy_27 : decode b12_rootBy 27 = .ok (.iload_n 1, 1) := by decide +kernel
theorem d12_rootBy_28 : decode b12_rootBy 28 = .ok (.iadd, 1) := by decide +kernel
theorem d12_rootBy_29 : decode b12_rootBy 29 = .ok (.iconst 1, 1) := by decide +kernel
theorem d12_rootBy_30 : decode b12_rootBy 30 = .ok (.iastore, 1) := by decide +kernel
theorem d12_rootBy_31 : decode b12_rootBy 31 = .ok (.aload_n 0, 1) := by decide +kernel
theorem d12_rootBy_32 : decode b12_rootBy 32 = .ok (.iload_n 1, 1) := by decide +kernel
theorem d12_rootBy_33 : decode b12_rootBy 33 = .ok (.invokevirtual 370, 3) := by decide +kernel
theorem d12_rootBy_36 : decode b12_rootBy 36 = .ok (.istore_n 3, 1) := by decide +kernel
theorem d12_rootBy_37 : decode b12_rootBy 37 = .ok (.aload_n 0, 1) := by decide +kernel
theorem d12_rootBy_38 : decode b12_rootBy 38 = .ok (.getfield 7, 3) := by decide +kernel
theorem d12_rootBy_41 : decode b12_rootBy 41 = .ok (.bipush 15, 2) := by decide +kernel
theorem d12_rootBy_43 : decode b12_rootBy 43 = .ok (.iload_n 1, 1) := by decide +kernel
theorem d12_rootBy_44 : decode b12_rootBy 44 = .ok (.iadd, 1) := by decide +kernel
theorem d12_rootBy_45 : decode b12_rootBy 45 = .ok (.iload_n 2, 1) := by decide +kernel
theorem d12_rootBy_46 : decode b12_rootBy 46 = .ok (.iastore, 1) := by decide +kernel
theorem d12_rootBy_47 : decode b12_rootBy 47 = .ok (.iload_n 3, 1) := by decide +kernel
theorem d12_rootBy_48 : decode b12_rootBy 48 = .ok (.ireturn, 1) := by decide +kernel
theorem mc12_root : Cond.code y12_root b12_root 3 (some .int) ∈ ce_cm := ce_cm_of (List.mem_of_getElem? (i := 1421) (by decide +kernel)) (by decide +kernel)
theorem ml_12_370 : Cond.methodLink cn_12 370 y12_root ∈ ce_cm := ce_cm_of (List.mem_of_getElem? (i := 1622) (by decide +kernel)) (by decide +kernel)
theorem mi12_root : Cond.instanceMethod y12_root ∈ ce_cm := ce_cm_of (List.mem_of_getElem? (i := 1419) (by decide +kernel)) (by decide +kernel)
theorem ms12_root : Cond.selects cn_12 y12_root y12_root ∈ ce_cm := ce_cm_of (List.mem_of_getElem? (i := 1420) (by decide +kernel)) (by decide +kernel)
def f12_rootBy (F : Nat) (x1 : Int32) (h : Hp) : Option (Int32 × Hp) :=
  Option.bind (f12_isNode F x1 h) (fun o2 =>
    if o2.1 = 0 then
      some ((-2 : Int32), o2.2)
    else
      if ce_in ((15 : Int32) + x1) 125 = true then
        if ce_in ((15 : Int32) + x1) 125 = true then
          ce_nm (hp_up o2.2 69 (((15 : Int32) + x1)).toNatClampNeg (1 : Int32)) (fun h_30 =>
            Option.bind (f12_root F x1 h_30) (fun o33 =>
              if ce_in ((15 : Int32) + x1) 125 = true then
                ce_nm (hp_up o33.2 69 (((15 : Int32) + x1)).toNatClampNeg (o2.2 69 (((15 : Int32) + x1)).toNatClampNeg)) (fun h_46 =>
                  some (o33.1, h_46))
              else none))
        else none
      else none)
set_option maxRecDepth 20000 in
theorem c12_rootBy (l : Launch) (D : va_G) (ad : Nat → Nat) (cA : Nat → ClassId) (aK aV : Nat → Nat) (B0 : Nat) (hA : ce_Ad ad B0) (F : Nat) (x1 : Int32)  (h : Hp) (r : Int32 × Hp) (e : f12_rootBy F x1 h = some r) : ce_Ct l D ad cA B0 (ce_St aK aV B0) y12_rootBy b12_rootBy 4 (some .int) 6 134 0 0 [.ref (ad 68), .int x1] h (some (.int r.1)) r.2 := by
  refine ce_enter hA (by decide) rfl (Nat.le_of_ble_eq_true rfl) (fun p e0 s m below meth c ls C hH hl => ?_)
  have hl : lv_has ls 4 [(0, .ref (ad 68)), (1, .int x1)] := hl
  have hx := C.1
  have hb := C.2.1
  have e : Option.bind _ some = some r := (congrArg (fun z => Option.bind z some) e).trans rfl
  unfold f12_rootBy at e
  refine lv_aload_n hx hb d12_rootBy_0 rfl (lv_at hl 0 rfl) ?_
  refine lv_iload_n hx hb d12_rootBy_1 rfl (lv_at hl 1 rfl) ?_
  obtain ⟨o2, eo2, e⟩ := ce_bd e
  refine ce_callV (As := [.int x1]) (rest := []) C (ce_sok aK aV B0) hH (c12_isNode l D ad cA aK aV B0 C.2.2.2.2.2.2.1 F x1  h o2 eo2) lo_68.1 lo_68.2.choose_spec rfl rfl mc12_isNode ml_12_220 mi12_isNode ms12_isNode mI_12 (n := 1) (by decide) rfl ⟨Nat.le_of_ble_eq_true rfl, Nat.le_of_ble_eq_true rfl⟩ ⟨Nat.le_of_ble_eq_true rfl, Nat.le_of_ble_eq_true rfl⟩ hl.1 rfl (Nat.le_of_ble_eq_true rfl) d12_rootBy_2 (fun H locs hH => ?_)
  refine W.eq (g2 := F0 m 5 ls [.int o2.1]) rfl ?_
  refine lv_if_ne (tgt := 11) hx hb d12_rootBy_5 (by decide) (fun hc5 => ?_) (fun hc5 => ?_)
  · have e := ce_if0 e hc5
    refine lv_aload_n hx hb d12_rootBy_11 rfl (lv_at hl 0 rfl) ?_
    refine gf_12_7 C hH d12_rootBy_12 ?_
    refine lv_bipush (v := (15 : Int32)) hx hb d12_rootBy_15 (by decide) ?_
    refine lv_iload_n hx hb d12_rootBy_17 rfl (lv_at hl 1 rfl) ?_
    refine lv_iadd hx hb d12_rootBy_18 ?_
    obtain ⟨hi19, e⟩ := ce_gd e
    refine ce_iald C hH lc_69.1 lc_69.2 (ce_in_vp hi19) d12_rootBy_19 ?_
    refine lv_istore_n (lv' := [(2, .int (o2.2 69 (((15 : Int32) + x1)).toNatClampNeg)), (0, .ref (ad 68)), (1, .int x1)]) hx hb d12_rootBy_20 rfl hl (by decide) rfl (fun ls hl => ?_)
    refine lv_aload_n hx hb d12_rootBy_21 rfl (lv_at hl 1 rfl) ?_
    refine gf_12_7 C hH d12_rootBy_22 ?_
    refine lv_bipush (v := (15 : Int32)) hx hb d12_rootBy_25 (by decide) ?_
    refine lv_iload_n hx hb d12_rootBy_27 rfl (lv_at hl 2 rfl) ?_
    refine lv_iadd hx hb d12_rootBy_28 ?_
    refine lv_iconst (v := (1 : Int32)) hx hb d12_rootBy_29 (by decide) ?_
    obtain ⟨hi30, e⟩ := ce_gd e
    refine ce_iast C hH lc_69.1 lc_69.2 (ce_in_vp hi30) d12_rootBy_30 (fun H locs hH => ?_)
    obtain ⟨h_30, eh_30, e⟩ := ce_nmE e
    rw [← eh_30] at hH
    refine lv_aload_n hx hb d12_rootBy_31 rfl (lv_at hl 1 rfl) ?_
    refine lv_iload_n hx hb d12_rootBy_32 rfl (lv_at hl 2 rfl) ?_
    obtain ⟨o33, eo33, e⟩ := ce_bd e
    refine ce_callV (As := [.int x1]) (rest := []) C (ce_sok aK aV B0) hH (c12_root l D ad cA aK aV B0 C.2.2.2.2.2.2.1 F x1  h_30 o33 eo33) lo_68.1 lo_68.2.choose_spec rfl rfl mc12_root ml_12_370 mi12_root ms12_root mI_12 (n := 1) (by decide) rfl ⟨Nat.le_of_ble_eq_true rfl, Nat.le_of_ble_eq_true rfl⟩ ⟨Nat.le_of_ble_eq_true rfl, Nat.le_of_ble_eq_true rfl⟩ hl.1 rfl (Nat.le_of_ble_eq_true rfl) d12_rootBy_33 (fun H locs hH => ?_)
    refine W.eq (g2 := F0 m 36 ls [.int o33.1]) rfl ?_
    refine lv_istore_n (lv' := [(3, .int o33.1), (2, .int (o2.2 69 (((15 : Int32) + x1)).toNatClampNeg)), (0, .ref (ad 68)), (1, .int x1)]) hx hb d12_rootBy_36 rfl hl (by decide) rfl (fun ls hl => ?_)
    refine lv_aload_n hx hb d12_rootBy_37 rfl (lv_at hl 2 rfl) ?_
    refine gf_12_7 C hH d12_rootBy_38 ?_
    refine lv_bipush (v := (15 : Int32)) hx hb d12_rootBy_41 (by decide) ?_
    refine lv_iload_n hx hb d12_rootBy_43 rfl (lv_at hl 3 rfl) ?_
    refine lv_iadd hx hb d12_rootBy_44 ?_
    refine lv_iload_n hx hb d12_rootBy_45 rfl (lv_at hl 1 rfl) ?_
    obtain ⟨hi46, e⟩ := ce_gd e
    refine ce_iast C hH lc_69.1 lc_69.2 (ce_in_vp hi46) d12_rootBy_46 (fun H locs hH => ?_)
    obtain ⟨h_46, eh_46, e⟩ := ce_nmE e
    rw [← eh_46] at hH
    refine lv_iload_n hx hb d12_rootBy_47 rfl (lv_at hl 0 rfl) ?_
    exact ce_iretE C (ce_sok aK aV B0) hH e d12_rootBy_48
  · have e := ce_if1 e hc5
    refine lv_bipush (v := (-2 : Int32)) hx hb d12_rootBy_8 (by decide) ?_
    exact ce_iretE C (ce_sok aK aV B0) hH e d12_rootBy_10
abbrev b12_cutting : ByteArray := prog_14_method_92_code
def y12_cutting : MethodName := ⟨cn_12, "cutting", "(II)I"⟩
theorem d12_cutting_0 : decode b12_cutting 0 = .ok (.aload_n 0, 1) := by decide +kernel
theorem d12_cutting_1 : decode b12_cutting 1 = .ok (.iload_n 1, 1) := by decide +kernel
theorem d12_cutting_2 : decode b12_cutting 2 = .ok (.iload_n 2, 1) := by decide +kernel
theorem d12_cutting_3 : decode b12_cutting 3 = .ok (.invokevirtual 259, 3) := by decide +kernel
theorem d12_cutting_6 : decode b12_cutting 6 = .ok (.ifCond .eq 15, 3) := by decide +kernel
theorem d12_cutting_9 : decode b12_cutting 9 = .ok (.aload_n 0, 1) := by decide +kernel
theorem d12_cutting_10 : decode b12_cutting 10 = .ok (.iconst 4, 1) := by decide +kernel
theorem d12_cutting_11 : decode b12_cutting 11 = .ok (.iload_n 1, 1) := by decide +kernel
theorem d12_cutting_12 : decode b12_cutting 12 = .ok (.imul, 1) := by decide +kernel
theorem d12_cutting_13 : decode b12_cutting 13 = .ok (.iload_n 2, 1) := by decide +kernel
theorem d12_cutting_14 : decode b12_cutting 14 = .ok (.iadd, 1) := by decide +kernel
theorem d12_cutting_15 : decode b12_cutting 15 = .ok (.invokevirtual 224, 3) := by decide +kernel
theorem d12_cutting_18 : decode b12_cutting 18 = .ok (.ifCond .ge 6, 3) := by decide +kernel
theorem d12_cutting_21 : decode b12_cutting 21 = .ok (.bipush (-2), 2) := by decide +kernel
theorem d12_cutting_23 : decode b12_cutting 23 = .ok (.ireturn, 1) := by decide +kernel
theorem d12_cutting_24 : decode b12_cutting 24 = .ok (.iconst 4, 1) := by decide +kernel
theorem d12_cutting_25 : decode b12_cutting 25 = .ok (.iload_n 1, 1) := by decide +kernel
theorem d12_cutting_26 : decode b12_cutting 26 = .ok (.imul, 1) := by decide +kernel
theorem d12_cutting_27 : decode b12_cutting 27 = .ok (.iload_n 2, 1) := by decide +kernel
theorem d12_cutting_28 : decode b12_cutting 28 = .ok (.iadd, 1) := by decide +kernel
theorem d12_cutting_29 : decode b12_cutting 29 = .ok (.istore_n 3, 1) := by decide +kernel
theorem d12_cutting_30 : decode b12_cutting 30 = .ok (.aload_n 0, 1) := by decide +kernel
theorem d12_cutting_31 : decode b12_cutting 31 = .ok (.iload_n 3, 1) := by decide +kernel
theorem d12_cutting_32 : decode b12_cutting 32 = .ok (.invokevirtual 224, 3) := by decide +kernel
theorem d12_cutting_35 : decode b12_cutting 35 = .ok (.istore 4, 2) := by decide +kernel
theorem d12_cutting_37 : decode b12_cutting 37 = .ok (.aload_n 0, 1) := by decide +kernel
theorem d12_cutting_38 : decode b12_cutting 38 = .ok (.getfield 7, 3) := by decide +kernel
theorem d12_cutting_41 : decode b12_cutting 41 = .ok (.bipush 85, 2) := by decide +kernel
theorem d12_cutting_43 : decode b12_cutting 43 = .ok (.iload_n 3, 1) := by decide +kernel
theorem d12_cutting_44 : decode b12_cutting 44 = .ok (.iadd, 1) := by decide +kernel
theorem d12_cutting_45 : decode b12_cutting 45 = .ok (.iaload, 1) := by decide +kernel
theorem d12_cutting_46 : decode b12_cutting 46 = .ok (.istore 5, 2) := by decide +kernel
theorem d12_cutting_48 : decode b12_cutting 48 = .ok (.aload_n 0, 1) := by decide +kernel
theorem d12_cutting_49 : decode b12_cutting 49 = .ok (.iload_n 3, 1) := by decide +kernel
theorem d12_cutting_50 : decode b12_cutting 50 = .ok (.invokevirtual 373, 3) := by decide +kernel
theorem d12_cutting_53 : decode b12_cutting 53 = .ok (.aload_n 0, 1) := by decide +kernel
theorem d12_cutting_54 : decode b12_cutting 54 = .ok (.iload_n 1, 1) := by decide +kernel
theorem d12_cutting_55 : decode b12_cutting 55 = .ok (.invokevirtual 230, 3) := by decide +kernel
theorem d12_cutting_58 : decode b12_cutting 58 = .ok (.istore 6, 2) := by decide +kernel
theorem d12_cutting_60 : decode b12_cutting 60 = .ok (.aload_n 0, 1) := by decide +kernel
theorem d12_cutting_61 : decode b12_cutting 61 = .ok (.iload_n 3, 1) := by decide +kernel
theorem d12_cutting_62 : decode b12_cutting 62 = .ok (.iload 4, 2) := by decide +kernel
theorem d12_cutting_64 : decode b12_cutting 64 = .ok (.iload 5, 2) := by decide +kernel
theorem d12_cutting_66 : decode b12_cutting 66 = .ok (.invokevirtual 204, 3) := by decide +kernel
theorem d12_cutting_69 : decode b12_cutting 69 = .ok (.iload 6, 2) := by decide +kernel
theorem d12_cutting_71 : decode b12_cutting 71 = .ok (.ireturn, 1) := by decide +kernel
theorem mc12_takes : Cond.code y12_takes b12_takes 3 none ∈ ce_cm := ce_cm_of (List.mem_of_getElem? (i := 1630) (by decide +kernel)) (by decide +kernel)
theorem ml_12_373 : Cond.methodLink cn_12 373 y12_takes ∈ ce_cm := ce_cm_of (List.mem_of_getElem? (i := 1627) (by decide +kernel)) (by decide +kernel)
theorem mi12_takes : Cond.instanceMethod y12_takes ∈ ce_cm := ce_cm_of (List.mem_of_getElem? (i := 1629) (by decide +kernel)) (by decide +kernel)
theorem ms12_takes : Cond.selects cn_12 y12_takes y12_takes ∈ ce_cm := ce_cm_of (List.mem_of_getElem? (i := 86) (by decide +kernel)) (by decide +kernel)
def f12_cutting (F : Nat) (x1 : Int32) (x2 : Int32) (h : Hp) : Option (Int32 × Hp) :=
  Option.bind (f12_isPort F x1 x2 h) (fun o3 =>
    if o3.1 = 0 then
      some ((-2 : Int32), o3.2)
    else
      Option.bind (f12_otherOf F (((4 : Int32) * x1) + x2) o3.2) (fun o15 =>
        if 0 ≤ o15.1 then
          Option.bind (f12_otherOf F (((4 : Int32) * x1) + x2) o15.2) (fun o32 =>
            if ce_in ((85 : Int32) + (((4 : Int32) * x1) + x2)) 125 = true then
              Option.bind (f12_takes F (((4 : Int32) * x1) + x2) o32.2) (fun o50 =>
                Option.bind (f12_sizeOf F x1 o50) (fun o55 =>
                  Option.bind (f12_lays F (((4 : Int32) * x1) + x2) o32.1 (o32.2 69 (((85 : Int32) + (((4 : Int32) * x1) + x2))).toNatClampNeg) o55.2) (fun o66 =>
                    some (o55.1, o66))))
            else none)
        else
          some ((-2 : Int32), o15.2)))
set_option maxRecDepth 20000 in
theorem c12_cutting (l : Launch) (D : va_G) (ad : Nat → Nat) (cA : Nat → ClassId) (aK aV : Nat → Nat) (B0 : Nat) (hA : ce_Ad ad B0) (F : Nat) (x1 : Int32) (x2 : Int32)  (h : Hp) (r : Int32 × Hp) (e : f12_cutting F x1 x2 h = some r) : ce_Ct l D ad cA B0 (ce_St aK aV B0) y12_cutting b12_cutting 7 (some .int) 3 68 0 0 [.ref (ad 68), .int x1, .int x2] h (some (.int r.1)) r.2 := by
  refine ce_enter hA (by decide) rfl (Nat.le_of_ble_eq_true rfl) (fun p e0 s m below meth c ls C hH hl => ?_)
  have hl : lv_has ls 7 [(0, .ref (ad 68)), (1, .int x1), (2, .int x2)] := hl
  have hx := C.1
  have hb := C.2.1
  have e : Option.bind _ some = some r := (congrArg (fun z => Option.bind z some) e).trans rfl
  unfold f12_cutting at e
  refine lv_aload_n hx hb d12_cutting_0 rfl (lv_at hl 0 rfl) ?_
  refine lv_iload_n hx hb d12_cutting_1 rfl (lv_at hl 1 rfl) ?_
  refine lv_iload_n hx hb d12_cutting_2 rfl (lv_at hl 2 rfl) ?_
  obtain ⟨o3, eo3, e⟩ := ce_bd e
  refine ce_callV (As := [.int x1, .int x2]) (rest := []) C (ce_sok aK aV B0) hH (c12_isPort l D ad cA aK aV B0 C.2.2.2.2.2.2.1 F x1 x2  h o3 eo3) lo_68.1 lo_68.2.choose_spec rfl rfl mc12_isPort ml_12_259 mi12_isPort ms12_isPort mI_12 (n := 2) (by decide) rfl ⟨Nat.le_of_ble_eq_true rfl, Nat.le_of_ble_eq_true rfl⟩ ⟨Nat.le_of_ble_eq_true rfl, Nat.le_of_ble_eq_true rfl⟩ hl.1 rfl (Nat.le_of_ble_eq_true rfl) d12_cutting_3 (fun H locs hH => ?_)
  refine W.eq (g2 := F0 m 6 ls [.int o3.1]) rfl ?_
  refine lv_if_eq (tgt := 21) hx hb d12_cutting_6 (by decide) (fun hc6 => ?_) (fun hc6 => ?_)
  · have e := ce_if1 e hc6
    refine lv_bipush (v := (-2 : Int32)) hx hb d12_cutting_21 (by decide) ?_
    exact ce_iretE C (ce_sok aK aV B0) hH e d12_cutting_23
  · have e := ce_if0 e hc6
    refine lv_aload_n hx hb d12_cutting_9 rfl (lv_at hl 0 rfl) ?_
    refine lv_iconst (v := (4 : Int32)) hx hb d12_cutting_10 (by decide) ?_
    refine lv_iload_n hx hb d12_cutting_11 rfl (lv_at hl 1 rfl) ?_
    refine lv_imul hx hb d12_cutting_12 ?_
    refine lv_iload_n hx hb d12_cutting_13 rfl (lv_at hl 2 rfl) ?_
    refine lv_iadd hx hb d12_cutting_14 ?_
    obtain ⟨o15, eo15, e⟩ := ce_bd e
    refine ce_callV (As := [.int (((4 : Int32) * x1) + x2)]) (rest := []) C (ce_sok aK aV B0) hH (c12_otherOf l D ad cA aK aV B0 C.2.2.2.2.2.2.1 F (((4 : Int32) * x1) + x2)  o3.2 o15 eo15) lo_68.1 lo_68.2.choose_spec rfl rfl mc12_otherOf ml_12_224 mi12_otherOf ms12_otherOf mI_12 (n := 1) (by decide) rfl ⟨Nat.le_of_ble_eq_true rfl, Nat.le_of_ble_eq_true rfl⟩ ⟨Nat.le_of_ble_eq_true rfl, Nat.le_of_ble_eq_true rfl⟩ hl.1 rfl (Nat.le_of_ble_eq_true rfl) d12_cutting_15 (fun H locs hH => ?_)
    refine W.eq (g2 := F0 m 18 ls [.int o15.1]) rfl ?_
    refine lv_if_ge (tgt := 24) hx hb d12_cutting_18 (by decide) (fun hc18 => ?_) (fun hc18 => ?_)
    · have e := ce_if1 e hc18
      refine lv_iconst (v := (4 : Int32)) hx hb d12_cutting_24 (by decide) ?_
      refine lv_iload_n hx hb d12_cutting_25 rfl (lv_at hl 1 rfl) ?_
      refine lv_imul hx hb d12_cutting_26 ?_
      refine lv_iload_n hx hb d12_cutting_27 rfl (lv_at hl 2 rfl) ?_
      refine lv_iadd hx hb d12_cutting_28 ?_
      refine lv_istore_n (lv' := [(3, .int (((4 : Int32) * x1) + x2)), (0, .ref (ad 68)), (1, .int x1), (2, .int x2)]) hx hb d12_cutting_29 rfl hl (by decide) rfl (fun ls hl => ?_)
      refine lv_aload_n hx hb d12_cutting_30 rfl (lv_at hl 1 rfl) ?_
      refine lv_iload_n hx hb d12_cutting_31 rfl (lv_at hl 0 rfl) ?_
      obtain ⟨o32, eo32, e⟩ := ce_bd e
      refine ce_callV (As := [.int (((4 : Int32) * x1) + x2)]) (rest := []) C (ce_sok aK aV B0) hH (c12_otherOf l D ad cA aK aV B0 C.2.2.2.2.2.2.1 F (((4 : Int32) * x1) + x2)  o15.2 o32 eo32) lo_68.1 lo_68.2.choose_spec rfl rfl mc12_otherOf ml_12_224 mi12_otherOf ms12_otherOf mI_12 (n := 1) (by decide) rfl ⟨Nat.le_of_ble_eq_true rfl, Nat.le_of_ble_eq_true rfl⟩ ⟨Nat.le_of_ble_eq_true rfl, Nat.le_of_ble_eq_true rfl⟩ hl.1 rfl (Nat.le_of_ble_eq_true rfl) d12_cutting_32 (fun H locs hH => ?_)
      refine W.eq (g2 := F0 m 35 ls [.int o32.1]) rfl ?_
      refine lv_istore (lv' := [(4, .int o32.1), (3, .int (((4 : Int32) * x1) + x2)), (0, .ref (ad 68)), (1, .int x1), (2, .int x2)]) hx hb d12_cutting_35 hl (by decide) rfl (fun ls hl => ?_)
      refine lv_aload_n hx hb d12_cutting_37 rfl (lv_at hl 2 rfl) ?_
      refine gf_12_7 C hH d12_cutting_38 ?_
      refine lv_bipush (v := (85 : Int32)) hx hb d12_cutting_41 (by decide) ?_
      refine lv_iload_n hx hb d12_cutting_43 rfl (lv_at hl 1 rfl) ?_
      refine lv_iadd hx hb d12_cutting_44 ?_
      obtain ⟨hi45, e⟩ := ce_gd e
      refine ce_iald C hH lc_69.1 lc_69.2 (ce_in_vp hi45) d12_cutting_45 ?_
      refine lv_istore (lv' := [(5, .int (o32.2 69 (((85 : Int32) + (((4 : Int32) * x1) + x2))).toNatClampNeg)), (4, .int o32.1), (3, .int (((4 : Int32) * x1) + x2)), (0, .ref (ad 68)), (1, .int x1), (2, .int x2)]) hx hb d12_cutting_46 hl (by decide) rfl (fun ls hl => ?_)
      refine lv_aload_n hx hb d12_cutting_48 rfl (lv_at hl 3 rfl) ?_
      refine lv_iload_n hx hb d12_cutting_49 rfl (lv_at hl 2 rfl) ?_
      obtain ⟨o50, eo50, e⟩ := ce_bd e
      refine ce_callV (As := [.int (((4 : Int32) * x1) + x2)]) (rest := []) C (ce_sok aK aV B0) hH (c12_takes l D ad cA aK aV B0 C.2.2.2.2.2.2.1 F (((4 : Int32) * x1) + x2)  o32.2 o50 eo50) lo_68.1 lo_68.2.choose_spec rfl rfl mc12_takes ml_12_373 mi12_takes ms12_takes mI_12 (n := 1) (by decide) rfl ⟨Nat.le_of_ble_eq_true rfl, Nat.le_of_ble_eq_true rfl⟩ ⟨Nat.le_of_ble_eq_true rfl, Nat.le_of_ble_eq_true rfl⟩ hl.1 rfl (Nat.le_of_ble_eq_true rfl) d12_cutting_50 (fun H locs hH => ?_)
      refine W.eq (g2 := F0 m 53 ls []) rfl ?_
      refine lv_aload_n hx hb d12_cutting_53 rfl (lv_at hl 3 rfl) ?_
      refine lv_iload_n hx hb d12_cutting_54 rfl (lv_at hl 4 rfl) ?_
      obtain ⟨o55, eo55, e⟩ := ce_bd e
      refine ce_callV (As := [.int x1]) (rest := []) C (ce_sok aK aV B0) hH (c12_sizeOf l D ad cA aK aV B0 C.2.2.2.2.2.2.1 F x1  o50 o55 eo55) lo_68.1 lo_68.2.choose_spec rfl rfl mc12_sizeOf ml_12_230 mi12_sizeOf ms12_sizeOf mI_12 (n := 1) (by decide) rfl ⟨Nat.le_of_ble_eq_true rfl, Nat.le_of_ble_eq_true rfl⟩ ⟨Nat.le_of_ble_eq_true rfl, Nat.le_of_ble_eq_true rfl⟩ hl.1 rfl (Nat.le_of_ble_eq_true rfl) d12_cutting_55 (fun H locs hH => ?_)
      refine W.eq (g2 := F0 m 58 ls [.int o55.1]) rfl ?_
      refine lv_istore (lv' := [(6, .int o55.1), (5, .int (o32.2 69 (((85 : Int32) + (((4 : Int32) * x1) + x2))).toNatClampNeg)), (4, .int o32.1), (3, .int (((4 : Int32) * x1) + x2)), (0, .ref (ad 68)), (1, .int x1), (2, .int x2)]) hx hb d12_cutting_58 hl (by decide) rfl (fun ls hl => ?_)
      refine lv_aload_n hx hb d12_cutting_60 rfl (lv_at hl 4 rfl) ?_
      refine lv_iload_n hx hb d12_cutting_61 rfl (lv_at hl 3 rfl) ?_
      refine lv_iload hx hb d12_cutting_62 (lv_at hl 2 rfl) ?_
      refine lv_iload hx hb d12_cutting_64 (lv_at hl 1 rfl) ?_
      obtain ⟨o66, eo66, e⟩ := ce_bd e
      refine ce_callV (As := [.int (((4 : Int32) * x1) + x2), .int o32.1, .int (o32.2 69 (((85 : Int32) + (((4 : Int32) * x1) + x2))).toNatClampNeg)]) (rest := []) C (ce_sok aK aV B0) hH (c12_lays l D ad cA aK aV B0 C.2.2.2.2.2.2.1 F (((4 : Int32) * x1) + x2) o32.1 (o32.2 69 (((85 : Int32) + (((4 : Int32) * x1) + x2))).toNatClampNeg)  o55.2 o66 eo66) lo_68.1 lo_68.2.choose_spec rfl rfl mc12_lays ml_12_204 mi12_lays ms12_lays mI_12 (n := 3) (by decide) rfl ⟨Nat.le_of_ble_eq_true rfl, Nat.le_of_ble_eq_true rfl⟩ ⟨Nat.le_of_ble_eq_true rfl, Nat.le_of_ble_eq_true rfl⟩ hl.1 rfl (Nat.le_of_ble_eq_true rfl) d12_cutting_66 (fun H locs hH => ?_)
      refine W.eq (g2 := F0 m 69 ls []) rfl ?_
      refine lv_iload hx hb d12_cutting_69 (lv_at hl 0 rfl) ?_
      exact ce_iretE C (ce_sok aK aV B0) hH e d12_cutting_71
    · have e := ce_if0 e hc18
      refine lv_bipush (v := (-2 : Int32)) hx hb d12_cutting_21 (by decide) ?_
      exact ce_iretE C (ce_sok aK aV B0) hH e d12_cutting_23
abbrev b12_bridges : ByteArray := prog_14_method_93_code
def y12_bridges : MethodName := ⟨cn_12, "bridges", "()I"⟩
theorem d12_bridges_0 : decode b12_bridges 0 = .ok (.aload_n 0, 1) := by decide +kernel
theorem d12_bridges_1 : decode b12_bridges 1 = .ok (.invokevirtual 355, 3) := by decide +kernel
theorem d12_bridges_4 : decode b12_bridges 4 = .ok (.ifCond .ne 6, 3) := by decide +kernel
theorem d12_bridges_7 : decode b12_bridges 7 = .ok (.bipush (-2), 2) := by decide +kernel
theorem d12_bridges_9 : decode b12_bridges 9 = .ok (.ireturn, 1) := by decide +kernel
theorem d12_bridges_10 : decode b12_bridges 10 = .ok (.aload_n 0, 1) := by decide +kernel
theorem d12_bridges_11 : decode b12_bridges 11 = .ok (.invokevirtual 239, 3) := by decide +kernel
theorem d12_bridges_14 : decode b12_bridges 14 = .ok (.istore_n 1, 1) := by decide +kernel
theorem d12_bridges_15 : decode b12_bridges 15 = .ok (.iconst 0, 1) := by decide +kernel
theorem d12_bridges_16 : decode b12_bridges 16 = .ok (.istore_n 2, 1) := by decide +kernel
theorem d12_bridges_17 : decode b12_bridges 17 = .ok (.iconst 0, 1) := by decide +kernel
theorem d12_bridges_18 : decode b12_bridges 18 = .ok (.istore_n 3, 1) := by decide +kernel
theorem d12_bridges_19 : decode b12_bridges 19 = .ok (.iload_n 3, 1) := by decide +kernel
theorem d12_bridges_20 : decode b12_bridges 20 = .ok (.bipush 40, 2) := by decide +kernel
theorem d12_bridges_22 : decode b12_bridges 22 = .ok (.if_icmp .ge 66, 3) := by decide +kernel
theorem d12_bridges_25 : decode b12_bridges 25 = .ok (.aload_n 0, 1) := by decide +kernel
theorem d12_bridges_26 : decode b12_bridges 26 = .ok (.iload_n 3, 1) := by decide +kernel
theorem d12_bridges_27 : decode b12_bridges 27 = .ok (.invokevirtual 224, 3) := by decide +kernel
theorem d12_bridges_30 : decode b12_bridges 30 = .ok (.istore 4, 2) := by decide +kernel
theorem d12_bridges_32 : decode b12_bridges 32 = .ok (.iload 4, 2) := by decide +kernel
theorem d12_bridges_34 : decode b12_bridges 34 = .ok (.iload_n 3, 1) := by decide +kernel
theorem d12_bridges_35 : decode b12_bridges 35 = .ok (.if_icmp .ge 6, 3) := by decide +kernel
theorem d12_bridges_38 : decode b12_bridges 38 = .ok (.goto 44, 3) := by decide +kernel
theorem d12_bridges_41 : decode b12_bridges 41 = .ok (.aload_n 0, 1) := by decide +kernel
theorem d12_bridges_42 : decode b12_bridges 42 = .ok (.getfield 7, 3) := by decide +kernel
theorem d12_bridges_45 : decode b12_bridges 45 = .ok (.bipush 85, 2) := by decide +kernel
theorem d12_bridges_47 : decode b12_bridges 47 = .ok (.iload_n 3, 1) := by decide +kernel
theorem d12_bridges_48 : decode b12_bridges 48 = .ok (.iadd, 1) := by decide +kernel
theorem d12_bridges_49 : decode b12_bridges 49 = .ok (.iaload, 1) := by decide +kernel
theorem d12_bridges_50 : decode b12_bridges 50 = .ok (.istore 5, 2) := by decide +kernel
theorem d12_bridges_52 : decode b12_bridges 52 = .ok (.aload_n 0, 1) := by decide +kernel
theorem d12_bridges_53 : decode b12_bridges 53 = .ok (.iload_n 3, 1) := by decide +kernel
theorem d12_bridges_54 : decode b12_bridges 54 = .ok (.invokevirtual 373, 3) := by decide +kernel
theorem d12_bridges_57 : decode b12_bridges 57 = .ok (.iload_n 2, 1) := by decide +kernel
theorem d12_bridges_58 : decode b12_bridges 58 = .ok (.aload_n 0, 1) := by decide +kernel
theorem d12_bridges_59 : decode b12_bridges 59 = .ok (.invokevirtual 239, 3) := by decide +kernel
theorem d12_bridges_62 : decode b12_bridges 62 = .ok (.iload_n 1, 1) := by decide +kernel
theorem d12_bridges_63 : decode b12_bridges 63 = .ok (.if_icmp .le 7, 3) := by decide +kernel
theorem d12_bridges_66 : decode b12_bridges 66 = .ok (.iconst 1, 1) := by decide +kernel
theorem d12_bridges_67 : decode b12_bridges 67 = .ok (.goto 4, 3) := by decide +kernel
theorem d12_bridges_70 : decode b12_bridges 70 = .ok (.iconst 0, 1) := by decide +kernel
theorem d12_bridges_71 : decode b12_bridges 71 = .ok (.iadd, 1) := by decide +kernel
theorem d12_bridges_72 : decode b12_bridges 72 = .ok (.istore_n 2, 1) := by decide +kernel
theorem d12_bridges_73 : decode b12_bridges 73 = .ok (.aload_n 0, 1) := by decide +kernel
theorem d12_bridges_74 : decode b12_bridges 74 = .ok (.iload_n 3, 1) := by decide +kernel
theorem d12_bridges_75 : decode b12_bridges 75 = .ok (.iload 4, 2) := by decide +kernel
theorem d12_bridges_77 : decode b12_bridges 77 = .ok (.iload 5, 2) := by decide +kernel
theorem d12_bridges_79 : decode b12_bridges 79 = .ok (.invokevirtual 204, 3) := by decide +kernel
theorem d12_bridges_82 : decode b12_bridges 82 = .ok (.iinc 3 1, 3) := by decide +kernel
theorem d12_bridges_85 : decode b12_bridges 85 = .ok (.goto (-66), 3) := by decide +kernel
theorem d12_bridges_88 : decode b12_bridges 88 = .ok (.iload_n 2, 1) := by decide +kernel
theorem d12_bridges_89 : decode b12_bridges 89 = .ok (.ireturn, 1) := by decide +kernel
def f12_bridges_b19 (F : Nat) (x1 : Int32) (x2 : Int32) (x3 : Int32) (h : Hp) : Option ((Int32 × Int32 × Hp) ⊕ (Int32 × Hp)) :=
  if (40 : Int32) ≤ x3 then
    some (.inr (x2, h))
  else
    Option.bind (f12_otherOf F x3 h) (fun o27 =>
      if x3 ≤ o27.1 then
        if ce_in ((85 : Int32) + x3) 125 = true then
          Option.bind (f12_takes F x3 o27.2) (fun o54 =>
            Option.bind (f12_busesOf F  o54) (fun o59 =>
              if o59.1 ≤ x1 then
                Option.bind (f12_lays F x3 o27.1 (o27.2 69 (((85 : Int32) + x3)).toNatClampNeg) o59.2) (fun o79 =>
                  some (.inl (x2 + (0 : Int32), x3 + (1 : Int32), o79)))
              else
                Option.bind (f12_lays F x3 o27.1 (o27.2 69 (((85 : Int32) + x3)).toNatClampNeg) o59.2) (fun o79 =>
                  some (.inl (x2 + (1 : Int32), x3 + (1 : Int32), o79)))))
        else none
      else
        some (.inl (x2, x3 + (1 : Int32), o27.2)))
set_option maxRecDepth 20000 in
theorem l12_bridges_19 (C : ce_Cx p s m args c meth b12_bridges 6 (some .int) cn_12 D ad cA B0 (ce_St aK aV B0)) (F : Nat) (x1 : Int32)  (r : Int32 × Hp) (g : (Int32 × Hp) → Option (Int32 × Hp)) (hx : ∀ (x2 : Int32) (h : Hp) (H : Heap) (locs : List Loc) (ls : Array Slot), ce_H D ad cA B0 [] s h H locs → lv_has ls 6 [(2, .int x2)] → g (x2, h) = some r → W p l e0 { frames := 3, cells := 0, slots := 0, locals := 66 } s m args below meth c H locs 0 0 (MQ below (ce_Q D ad cA B0 (ce_St aK aV B0) (some (.int r.1)) r.2) args s 0 0 (fun q => B0 ≤ q)) (F0 m 88 ls [])) : ∀ (n : Nat) (x2 : Int32) (x3 : Int32) (h : Hp) (H : Heap) (locs : List Loc) (ls : Array Slot), ce_H D ad cA B0 [] s h H locs → lv_has ls 6 [(0, .ref (ad 68)), (1, .int x1), (2, .int x2), (3, .int x3)] → Option.bind (ce_it (fun (st : Int32 × Int32 × Hp) => f12_bridges_b19 F x1 st.1 st.2.1 st.2.2) n (x2, x3, h)) g = some r → W p l e0 { frames := 3, cells := 0, slots := 0, locals := 66 } s m args below meth c H locs 0 0 (MQ below (ce_Q D ad cA B0 (ce_St aK aV B0) (some (.int r.1)) r.2) args s 0 0 (fun q => B0 ≤ q)) (F0 m 19 ls []) := by
  intro n
  induction n with
  | zero =>
    intro x2 x3 h H locs ls hH hl e
    exact absurd e (fun z => by cases z)
  | succ n ih =>
    intro x2 x3 h H locs ls hH hl e
    have hx9 := C.1
    have hb := C.2.1
    have e : Option.bind (f12_bridges_b19 F x1 x2 x3 h) _ = some r := ce_it_bd e
    unfold f12_bridges_b19 at e
    refine lv_iload_n hx9 hb d12_bridges_19 rfl (lv_at hl 3 rfl) ?_
    refine lv_bipush (v := (40 : Int32)) hx9 hb d12_bridges_20 (by decide) ?_
    refine lv_icmp_ge (tgt := 88) hx9 hb d12_bridges_22 (by decide) (fun hc22 => ?_) (fun hc22 => ?_)
    · have e := ce_if1 e hc22
      exact hx x2 h _ _ _ hH (lv_sub hl [2] rfl) e
    · have e := ce_if0 e hc22
      refine lv_aload_n hx9 hb d12_bridges_25 rfl (lv_at hl 0 rfl) ?_
      refine lv_iload_n hx9 hb d12_bridges_26 rfl (lv_at hl 3 rfl) ?_
      obtain ⟨o27, eo27, e⟩ := ce_bd e
      refine ce_callV (As := [.int x3]) (rest := []) C (ce_sok aK aV B0) hH (c12_otherOf l D ad cA aK aV B0 C.2.2.2.2.2.2.1 F x3  h o27 eo27) lo_68.1 lo_68.2.choose_spec rfl rfl mc12_otherOf ml_12_224 mi12_otherOf ms12_otherOf mI_12 (n := 1) (by decide) rfl ⟨Nat.le_of_ble_eq_true rfl, Nat.le_of_ble_eq_true rfl⟩ ⟨Nat.le_of_ble_eq_true rfl, Nat.le_of_ble_eq_true rfl⟩ hl.1 rfl (Nat.le_of_ble_eq_true rfl) d12_bridges_27 (fun H locs hH => ?_)
      refine W.eq (g2 := F0 m 30 ls [.int o27.1]) rfl ?_
      refine lv_istore (lv' := [(4, .int o27.1), (0, .ref (ad 68)), (1, .int x1), (2, .int x2), (3, .int x3)]) hx9 hb d12_bridges_30 hl (by decide) rfl (fun ls hl => ?_)
      refine lv_iload hx9 hb d12_bridges_32 (lv_at hl 0 rfl) ?_
      refine lv_iload_n hx9 hb d12_bridges_34 rfl (lv_at hl 4 rfl) ?_
      refine lv_icmp_ge (tgt := 41) hx9 hb d12_bridges_35 (by decide) (fun hc35 => ?_) (fun hc35 => ?_)
      · have e := ce_if1 e hc35
        refine lv_aload_n hx9 hb d12_bridges_41 rfl (lv_at hl 1 rfl) ?_
        refine gf_12_7 C hH d12_bridges_42 ?_
        refine lv_bipush (v := (85 : Int32)) hx9 hb d12_bridges_45 (by decide) ?_
        refine lv_iload_n hx9 hb d12_bridges_47 rfl (lv_at hl 4 rfl) ?_
        refine lv_iadd hx9 hb d12_bridges_48 ?_
        obtain ⟨hi49, e⟩ := ce_gd e
        refine ce_iald C hH lc_69.1 lc_69.2 (ce_in_vp hi49) d12_bridges_49 ?_
        refine lv_istore (lv' := [(5, .int (o27.2 69 (((85 : Int32) + x3)).toNatClampNeg)), (4, .int o27.1), (0, .ref (ad 68)), (1, .int x1), (2, .int x2), (3, .int x3)]) hx9 hb d12_bridges_50 hl (by decide) rfl (fun ls hl => ?_)
        refine lv_aload_n hx9 hb d12_bridges_52 rfl (lv_at hl 2 rfl) ?_
        refine lv_iload_n hx9 hb d12_bridges_53 rfl (lv_at hl 5 rfl) ?_
        obtain ⟨o54, eo54, e⟩ := ce_bd e
        refine ce_callV (As := [.int x3]) (rest := []) C (ce_sok aK aV B0) hH (c12_takes l D ad cA aK aV B0 C.2.2.2.2.2.2.1 F x3  o27.2 o54 eo54) lo_68.1 lo_68.2.choose_spec rfl rfl mc12_takes ml_12_373 mi12_takes ms12_takes mI_12 (n := 1) (by decide) rfl ⟨Nat.le_of_ble_eq_true rfl, Nat.le_of_ble_eq_true rfl⟩ ⟨Nat.le_of_ble_eq_true rfl, Nat.le_of_ble_eq_true rfl⟩ hl.1 rfl (Nat.le_of_ble_eq_true rfl) d12_bridges_54 (fun H locs hH => ?_)
        refine W.eq (g2 := F0 m 57 ls []) rfl ?_
        refine lv_iload_n hx9 hb d12_bridges_57 rfl (lv_at hl 4 rfl) ?_
        refine lv_aload_n hx9 hb d12_bridges_58 rfl (lv_at hl 2 rfl) ?_
        obtain ⟨o59, eo59, e⟩ := ce_bd e
        refine ce_callV (As := []) (rest := [.int x2]) C (ce_sok aK aV B0) hH (c12_busesOf l D ad cA aK aV B0 C.2.2.2.2.2.2.1 F   o54 o59 eo59) lo_68.1 lo_68.2.choose_spec rfl rfl mc12_busesOf ml_12_239 mi12_busesOf ms12_busesOf mI_12 (n := 0) (by decide) rfl ⟨Nat.le_of_ble_eq_true rfl, Nat.le_of_ble_eq_true rfl⟩ ⟨Nat.le_of_ble_eq_true rfl, Nat.le_of_ble_eq_true rfl⟩ hl.1 rfl (Nat.le_of_ble_eq_true rfl) d12_bridges_59 (fun H locs hH => ?_)
        refine W.eq (g2 := F0 m 62 ls [.int o59.1, .int x2]) rfl ?_
        refine lv_iload_n hx9 hb d12_bridges_62 rfl (lv_at hl 3 rfl) ?_
        refine lv_icmp_le (tgt := 70) hx9 hb d12_bridges_63 (by decide) (fun hc63 => ?_) (fun hc63 => ?_)
        · have e := ce_if1 e hc63
          refine lv_iconst (v := (0 : Int32)) hx9 hb d12_bridges_70 (by decide) ?_
          refine lv_iadd hx9 hb d12_bridges_71 ?_
          refine lv_istore_n (lv' := [(2, .int (x2 + (0 : Int32))), (5, .int (o27.2 69 (((85 : Int32) + x3)).toNatClampNeg)), (4, .int o27.1), (0, .ref (ad 68)), (1, .int x1), (3, .int x3)]) hx9 hb d12_bridges_72 rfl hl (by decide) rfl (fun ls hl => ?_)
          refine lv_aload_n hx9 hb d12_bridges_73 rfl (lv_at hl 3 rfl) ?_
          refine lv_iload_n hx9 hb d12_bridges_74 rfl (lv_at hl 5 rfl) ?_
          refine lv_iload hx9 hb d12_bridges_75 (lv_at hl 2 rfl) ?_
          refine lv_iload hx9 hb d12_bridges_77 (lv_at hl 1 rfl) ?_
          obtain ⟨o79, eo79, e⟩ := ce_bd e
          refine ce_callV (As := [.int x3, .int o27.1, .int (o27.2 69 (((85 : Int32) + x3)).toNatClampNeg)]) (rest := []) C (ce_sok aK aV B0) hH (c12_lays l D ad cA aK aV B0 C.2.2.2.2.2.2.1 F x3 o27.1 (o27.2 69 (((85 : Int32) + x3)).toNatClampNeg)  o59.2 o79 eo79) lo_68.1 lo_68.2.choose_spec rfl rfl mc12_lays ml_12_204 mi12_lays ms12_lays mI_12 (n := 3) (by decide) rfl ⟨Nat.le_of_ble_eq_true rfl, Nat.le_of_ble_eq_true rfl⟩ ⟨Nat.le_of_ble_eq_true rfl, Nat.le_of_ble_eq_true rfl⟩ hl.1 rfl (Nat.le_of_ble_eq_true rfl) d12_bridges_79 (fun H locs hH => ?_)
          refine W.eq (g2 := F0 m 82 ls []) rfl ?_
          refine lv_iinc (v := x3 + (1 : Int32)) (lv' := [(3, .int (x3 + (1 : Int32))), (2, .int (x2 + (0 : Int32))), (5, .int (o27.2 69 (((85 : Int32) + x3)).toNatClampNeg)), (4, .int o27.1), (0, .ref (ad 68)), (1, .int x1)]) hx9 hb d12_bridges_82 hl (k := 5) rfl rfl (by decide) rfl (fun ls hl => ?_)
          refine lv_goto (tgt := 19) hx9 hb d12_bridges_85 (by decide) ?_
          exact ih (x2 + (0 : Int32)) (x3 + (1 : Int32)) o79 _ _ _ hH (lv_sub hl [4, 5, 1, 0] rfl) e
        · have e := ce_if0 e hc63
          refine lv_iconst (v := (1 : Int32)) hx9 hb d12_bridges_66 (by decide) ?_
          refine lv_goto (tgt := 71) hx9 hb d12_bridges_67 (by decide) ?_
          refine lv_iadd hx9 hb d12_bridges_71 ?_
          refine lv_istore_n (lv' := [(2, .int (x2 + (1 : Int32))), (5, .int (o27.2 69 (((85 : Int32) + x3)).toNatClampNeg)), (4, .int o27.1), (0, .ref (ad 68)), (1, .int x1), (3, .int x3)]) hx9 hb d12_bridges_72 rfl hl (by decide) rfl (fun ls hl => ?_)
          refine lv_aload_n hx9 hb d12_bridges_73 rfl (lv_at hl 3 rfl) ?_
          refine lv_iload_n hx9 hb d12_bridges_74 rfl (lv_at hl 5 rfl) ?_
          refine lv_iload hx9 hb d12_bridges_75 (lv_at hl 2 rfl) ?_
          refine lv_iload hx9 hb d12_bridges_77 (lv_at hl 1 rfl) ?_
          obtain ⟨o79, eo79, e⟩ := ce_bd e
          refine ce_callV (As := [.int x3, .int o27.1, .int (o27.2 69 (((85 : Int32) + x3)).toNatClampNeg)]) (rest := []) C (ce_sok aK aV B0) hH (c12_lays l D ad cA aK aV B0 C.2.2.2.2.2.2.1 F x3 o27.1 (o27.2 69 (((85 : Int32) + x3)).toNatClampNeg)  o59.2 o79 eo79) lo_68.1 lo_68.2.choose_spec rfl rfl mc12_lays ml_12_204 mi12_lays ms12_lays mI_12 (n := 3) (by decide) rfl ⟨Nat.le_of_ble_eq_true rfl, Nat.le_of_ble_eq_true rfl⟩ ⟨Nat.le_of_ble_eq_true rfl, Nat.le_of_ble_eq_true rfl⟩ hl.1 rfl (Nat.le_of_ble_eq_true rfl) d12_bridges_79 (fun H locs hH => ?_)
          refine W.eq (g2 := F0 m 82 ls []) rfl ?_
          refine lv_iinc (v := x3 + (1 : Int32)) (lv' := [(3, .int (x3 + (1 : Int32))), (2, .int (x2 + (1 : Int32))), (5, .int (o27.2 69 (((85 : Int32) + x3)).toNatClampNeg)), (4, .int o27.1), (0, .ref (ad 68)), (1, .int x1)]) hx9 hb d12_bridges_82 hl (k := 5) rfl rfl (by decide) rfl (fun ls hl => ?_)
          refine lv_goto (tgt := 19) hx9 hb d12_bridges_85 (by decide) ?_
          exact ih (x2 + (1 : Int32)) (x3 + (1 : Int32)) o79 _ _ _ hH (lv_sub hl [4, 5, 1, 0] rfl) e
      · have e := ce_if0 e hc35
        refine lv_goto (tgt := 82) hx9 hb d12_bridges_38 (by decide) ?_
        refine lv_iinc (v := x3 + (1 : Int32)) (lv' := [(3, .int (x3 + (1 : Int32))), (4, .int o27.1), (0, .ref (ad 68)), (1, .int x1), (2, .int x2)]) hx9 hb d12_bridges_82 hl (k := 4) rfl rfl (by decide) rfl (fun ls hl => ?_)
        refine lv_goto (tgt := 19) hx9 hb d12_bridges_85 (by decide) ?_
        exact ih x2 (x3 + (1 : Int32)) o27.2 _ _ _ hH (lv_sub hl [2, 3, 4, 0] rfl) e
def f12_bridges (F : Nat)  (h : Hp) : Option (Int32 × Hp) :=
  Option.bind (f12_is F  h) (fun o1 =>
    if o1.1 = 0 then
      some ((-2 : Int32), o1.2)
    else
      Option.bind (f12_busesOf F  o1.2) (fun o11 =>
        Option.bind (ce_it (fun (st : Int32 × Int32 × Hp) => f12_bridges_b19 F o11.1 st.1 st.2.1 st.2.2) F ((0 : Int32), (0 : Int32), o11.2)) (fun o19 =>
          some (o19.1, o19.2))))
set_option maxRecDepth 20000 in
theorem c12_bridges (l : Launch) (D : va_G) (ad : Nat → Nat) (cA : Nat → ClassId) (aK aV : Nat → Nat) (B0 : Nat) (hA : ce_Ad ad B0) (F : Nat)   (h : Hp) (r : Int32 × Hp) (e : f12_bridges F  h = some r) : ce_Ct l D ad cA B0 (ce_St aK aV B0) y12_bridges b12_bridges 6 (some .int) 3 66 0 0 [.ref (ad 68)] h (some (.int r.1)) r.2 := by
  refine ce_enter hA (by decide) rfl (Nat.le_of_ble_eq_true rfl) (fun p e0 s m below meth c ls C hH hl => ?_)
  have hl : lv_has ls 6 [(0, .ref (ad 68))] := hl
  have hx := C.1
  have hb := C.2.1
  have e : Option.bind _ some = some r := (congrArg (fun z => Option.bind z some) e).trans rfl
  unfold f12_bridges at e
  refine lv_aload_n hx hb d12_bridges_0 rfl (lv_at hl 0 rfl) ?_
  obtain ⟨o1, eo1, e⟩ := ce_bd e
  refine ce_callV (As := []) (rest := []) C (ce_sok aK aV B0) hH (c12_is l D ad cA aK aV B0 C.2.2.2.2.2.2.1 F   h o1 eo1) lo_68.1 lo_68.2.choose_spec rfl rfl mc12_is ml_12_355 mi12_is ms12_is mI_12 (n := 0) (by decide) rfl ⟨Nat.le_of_ble_eq_true rfl, Nat.le_of_ble_eq_true rfl⟩ ⟨Nat.le_of_ble_eq_true rfl, Nat.le_of_ble_eq_true rfl⟩ hl.1 rfl (Nat.le_of_ble_eq_true rfl) d12_bridges_1 (fun H locs hH => ?_)
  refine W.eq (g2 := F0 m 4 ls [.int o1.1]) rfl ?_
  refine lv_if_ne (tgt := 10) hx hb d12_bridges_4 (by decide) (fun hc4 => ?_) (fun hc4 => ?_)
  · have e := ce_if0 e hc4
    refine lv_aload_n hx hb d12_bridges_10 rfl (lv_at hl 0 rfl) ?_
    obtain ⟨o11, eo11, e⟩ := ce_bd e
    refine ce_callV (As := []) (rest := []) C (ce_sok aK aV B0) hH (c12_busesOf l D ad cA aK aV B0 C.2.2.2.2.2.2.1 F   o1.2 o11 eo11) lo_68.1 lo_68.2.choose_spec rfl rfl mc12_busesOf ml_12_239 mi12_busesOf ms12_busesOf mI_12 (n := 0) (by decide) rfl ⟨Nat.le_of_ble_eq_true rfl, Nat.le_of_ble_eq_true rfl⟩ ⟨Nat.le_of_ble_eq_true rfl, Nat.le_of_ble_eq_true rfl⟩ hl.1 rfl (Nat.le_of_ble_eq_true rfl) d12_bridges_11 (fun H locs hH => ?_)
    refine W.eq (g2 := F0 m 14 ls [.int o11.1]) rfl ?_
    refine lv_istore_n (lv' := [(1, .int o11.1), (0, .ref (ad 68))]) hx hb d12_bridges_14 rfl hl (by decide) rfl (fun ls hl => ?_)
    refine lv_iconst (v := (0 : Int32)) hx hb d12_bridges_15 (by decide) ?_
    refine lv_istore_n (lv' := [(2, .int (0 : Int32)), (1, .int o11.1), (0, .ref (ad 68))]) hx hb d12_bridges_16 rfl hl (by decide) rfl (fun ls hl => ?_)
    refine lv_iconst (v := (0 : Int32)) hx hb d12_bridges_17 (by decide) ?_
    refine lv_istore_n (lv' := [(3, .int (0 : Int32)), (2, .int (0 : Int32)), (1, .int o11.1), (0, .ref (ad 68))]) hx hb d12_bridges_18 rfl hl (by decide) rfl (fun ls hl => ?_)
    refine l12_bridges_19 C F o11.1  r _ (fun y19_2 h_19 H locs ls hH hl e => ?_) F (0 : Int32) (0 : Int32) o11.2 _ _ _ hH (lv_sub hl [3, 2, 1, 0] rfl) (ce_as e)
    try dsimp only at e
    refine lv_iload_n hx hb d12_bridges_88 rfl (lv_at hl 0 rfl) ?_
    exact ce_iretE C (ce_sok aK aV B0) hH e d12_bridges_89
  · have e := ce_if1 e hc4
    refine lv_bipush (v := (-2 : Int32)) hx hb d12_bridges_7 (by decide) ?_
    exact ce_iretE C (ce_sok aK aV B0) hH e d12_bridges_9
end C19
