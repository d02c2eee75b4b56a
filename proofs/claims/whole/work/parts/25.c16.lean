-- C16: functions and contracts, written by wip/whole/gen (mgen.py, walk.py, walk2.py) out of the bytecode
section C16
variable {p : Program} {l : Launch} {e0 : Env} {R : Room} {s : State} {m : MethodId} {args : Array Value} {below : List Frame} {meth : Method} {c : Code} {H : Heap} {locs : List Loc} {cells slots : Nat} {Q : State → Prop}
variable {cc : ByteArray} {pc nL : Nat} {ret : Option FieldType} {ls : Array Slot} {rest : List Value} {D : va_G} {ad : Nat → Nat} {cA : Nat → ClassId} {B0 : Nat} {X : va_W} {h : Hp} {aK aV : Nat → Nat}
abbrev b12_withId : ByteArray := prog_14_method_54_code
def y12_withId : MethodName := ⟨cn_12, "withId", "(II)I"⟩
theorem d12_withId_0 : decode b12_withId 0 = .ok (.iconst 0, 1) := by decide +kernel
theorem d12_withId_1 : decode b12_withId 1 = .ok (.istore_n 3, 1) := by decide +kernel
theorem d12_withId_2 : decode b12_withId 2 = .ok (.iload_n 3, 1) := by decide +kernel
theorem d12_withId_3 : decode b12_withId 3 = .ok (.aload_n 0, 1) := by decide +kernel
theorem d12_withId_4 : decode b12_withId 4 = .ok (.getfield 7, 3) := by decide +kernel
theorem d12_withId_7 : decode b12_withId 7 = .ok (.iconst 2, 1) := by decide +kernel
theorem d12_withId_8 : decode b12_withId 8 = .ok (.iaload, 1) := by decide +kernel
theorem d12_withId_9 : decode b12_withId 9 = .ok (.if_icmp .ge 36, 3) := by decide +kernel
theorem d12_withId_12 : decode b12_withId 12 = .ok (.aload_n 0, 1) := by decide +kernel
theorem d12_withId_13 : decode b12_withId 13 = .ok (.getfield 32, 3) := by decide +kernel
theorem d12_withId_16 : decode b12_withId 16 = .ok (.iload_n 3, 1) := by decide +kernel
theorem d12_withId_17 : decode b12_withId 17 = .ok (.iaload, 1) := by decide +kernel
theorem d12_withId_18 : decode b12_withId 18 = .ok (.aload_n 0, 1) := by decide +kernel
theorem d12_withId_19 : decode b12_withId 19 = .ok (.getfield 32, 3) := by decide +kernel
theorem d12_withId_22 : decode b12_withId 22 = .ok (.iload_n 1, 1) := by decide +kernel
theorem d12_withId_23 : decode b12_withId 23 = .ok (.iaload, 1) := by decide +kernel
theorem d12_withId_24 : decode b12_withId 24 = .ok (.if_icmp .ne 15, 3) := by decide +kernel
theorem d12_withId_27 : decode b12_withId 27 = .ok (.aload_n 0, 1) := by decide +kernel
theorem d12_withId_28 : decode b12_withId 28 = .ok (.getfield 56, 3) := by decide +kernel
theorem d12_withId_31 : decode b12_withId 31 = .ok (.iload_n 3, 1) := by decide +kernel
theorem d12_withId_32 : decode b12_withId 32 = .ok (.iaload, 1) := by decide +kernel
theorem d12_withId_33 : decode b12_withId 33 = .ok (.iload_n 2, 1) := by decide +kernel
theorem d12_withId_34 : decode b12_withId 34 = .ok (.if_icmp .ne 5, 3) := by decide +kernel
theorem d12_withId_37 : decode b12_withId 37 = .ok (.iload_n 3, 1) := by decide +kernel
theorem d12_withId_38 : decode b12_withId 38 = .ok (.ireturn, 1) := by decide +kernel
theorem d12_withId_39 : decode b12_withId 39 = .ok (.iinc 3 1, 3) := by decide +kernel
theorem d12_withId_42 : decode b12_withId 42 = .ok (.goto (-40), 3) := by decide +kernel
theorem d12_withId_45 : decode b12_withId 45 = .ok (.iconst (-1), 1) := by decide +kernel
theorem d12_withId_46 : decode b12_withId 46 = .ok (.ireturn, 1) := by decide +kernel
def f12_withId_b2 (F : Nat) (x1 : Int32) (x2 : Int32) (x3 : Int32) (h : Hp) : Option ((Int32 × Hp) ⊕ ((Int32 × Hp) ⊕ (Hp))) :=
  if (h 69 ((2 : Int32)).toNatClampNeg) ≤ x3 then
    some (.inr (.inr h))
  else
    if ce_in x3 10 = true then
      if ce_in x1 10 = true then
        if (h 75 (x3).toNatClampNeg) = (h 75 (x1).toNatClampNeg) then
          if ce_in x3 10 = true then
            if (h 83 (x3).toNatClampNeg) = x2 then
              some (.inr (.inl (x3, h)))
            else
              some (.inl (x3 + (1 : Int32), h))
          else none
        else
          some (.inl (x3 + (1 : Int32), h))
      else none
    else none
set_option maxRecDepth 20000 in
theorem l12_withId_2 (C : ce_Cx p s m args c meth b12_withId 4 (some .int) cn_12 D ad cA B0 (ce_St aK aV B0)) (F : Nat) (x1 : Int32) (x2 : Int32)  (r : Int32 × Hp) (g : ((Int32 × Hp) ⊕ (Hp)) → Option (Int32 × Hp)) (hx : ∀  (h : Hp) (H : Heap) (locs : List Loc) (ls : Array Slot), ce_H D ad cA B0 [] s h H locs → lv_has ls 4 [] → g (.inr h) = some r → W p l e0 { frames := 0, cells := 0, slots := 0, locals := 0 } s m args below meth c H locs 0 0 (MQ below (ce_Q D ad cA B0 (ce_St aK aV B0) (some (.int r.1)) r.2) args s 0 0 (fun q => B0 ≤ q)) (F0 m 45 ls [])) (he : ∀ z, g (.inl z) = some z) : ∀ (n : Nat) (x3 : Int32) (h : Hp) (H : Heap) (locs : List Loc) (ls : Array Slot), ce_H D ad cA B0 [] s h H locs → lv_has ls 4 [(0, .ref (ad 68)), (1, .int x1), (2, .int x2), (3, .int x3)] → Option.bind (ce_it (fun (st : Int32 × Hp) => f12_withId_b2 F x1 x2 st.1 st.2) n (x3, h)) g = some r → W p l e0 { frames := 0, cells := 0, slots := 0, locals := 0 } s m args below meth c H locs 0 0 (MQ below (ce_Q D ad cA B0 (ce_St aK aV B0) (some (.int r.1)) r.2) args s 0 0 (fun q => B0 ≤ q)) (F0 m 2 ls []) := by
  intro n
  induction n with
  | zero =>
    intro x3 h H locs ls hH hl e
    exact absurd e (fun z => by cases z)
  | succ n ih =>
    intro x3 h H locs ls hH hl e
    have hx9 := C.1
    have hb := C.2.1
    have e : Option.bind (f12_withId_b2 F x1 x2 x3 h) _ = some r := ce_it_bd e
    unfold f12_withId_b2 at e
    refine lv_iload_n hx9 hb d12_withId_2 rfl (lv_at hl 3 rfl) ?_
    refine lv_aload_n hx9 hb d12_withId_3 rfl (lv_at hl 0 rfl) ?_
    refine gf_12_7 C hH d12_withId_4 ?_
    refine lv_iconst (v := (2 : Int32)) hx9 hb d12_withId_7 (by decide) ?_
    refine ce_iald C hH lc_69.1 lc_69.2 (ce_in_vp (by decide)) d12_withId_8 ?_
    refine lv_icmp_ge (tgt := 45) hx9 hb d12_withId_9 (by decide) (fun hc9 => ?_) (fun hc9 => ?_)
    · have e := ce_if1 e hc9
      exact hx  h _ _ _ hH (lv_sub hl [] rfl) e
    · have e := ce_if0 e hc9
      refine lv_aload_n hx9 hb d12_withId_12 rfl (lv_at hl 0 rfl) ?_
      refine gf_12_32 C hH d12_withId_13 ?_
      refine lv_iload_n hx9 hb d12_withId_16 rfl (lv_at hl 3 rfl) ?_
      obtain ⟨hi17, e⟩ := ce_gd e
      refine ce_iald C hH lc_75.1 lc_75.2 (ce_in_vp hi17) d12_withId_17 ?_
      refine lv_aload_n hx9 hb d12_withId_18 rfl (lv_at hl 0 rfl) ?_
      refine gf_12_32 C hH d12_withId_19 ?_
      refine lv_iload_n hx9 hb d12_withId_22 rfl (lv_at hl 1 rfl) ?_
      obtain ⟨hi23, e⟩ := ce_gd e
      refine ce_iald C hH lc_75.1 lc_75.2 (ce_in_vp hi23) d12_withId_23 ?_
      refine lv_icmp_ne (tgt := 39) hx9 hb d12_withId_24 (by decide) (fun hc24 => ?_) (fun hc24 => ?_)
      · have e := ce_if0 e hc24
        refine lv_iinc (v := x3 + (1 : Int32)) (lv' := [(3, .int (x3 + (1 : Int32))), (0, .ref (ad 68)), (1, .int x1), (2, .int x2)]) hx9 hb d12_withId_39 hl (k := 3) rfl rfl (by decide) rfl (fun ls hl => ?_)
        refine lv_goto (tgt := 2) hx9 hb d12_withId_42 (by decide) ?_
        exact ih (x3 + (1 : Int32)) h _ _ _ hH (lv_sub hl [1, 2, 3, 0] rfl) e
      · have e := ce_if1 e hc24
        refine lv_aload_n hx9 hb d12_withId_27 rfl (lv_at hl 0 rfl) ?_
        refine gf_12_56 C hH d12_withId_28 ?_
        refine lv_iload_n hx9 hb d12_withId_31 rfl (lv_at hl 3 rfl) ?_
        obtain ⟨hi32, e⟩ := ce_gd e
        refine ce_iald C hH lc_83.1 lc_83.2 (ce_in_vp hi32) d12_withId_32 ?_
        refine lv_iload_n hx9 hb d12_withId_33 rfl (lv_at hl 2 rfl) ?_
        refine lv_icmp_ne (tgt := 39) hx9 hb d12_withId_34 (by decide) (fun hc34 => ?_) (fun hc34 => ?_)
        · have e := ce_if0 e hc34
          refine lv_iinc (v := x3 + (1 : Int32)) (lv' := [(3, .int (x3 + (1 : Int32))), (0, .ref (ad 68)), (1, .int x1), (2, .int x2)]) hx9 hb d12_withId_39 hl (k := 3) rfl rfl (by decide) rfl (fun ls hl => ?_)
          refine lv_goto (tgt := 2) hx9 hb d12_withId_42 (by decide) ?_
          exact ih (x3 + (1 : Int32)) h _ _ _ hH (lv_sub hl [1, 2, 3, 0] rfl) e
        · have e := ce_if1 e hc34
          refine lv_iload_n hx9 hb d12_withId_37 rfl (lv_at hl 3 rfl) ?_
          have e := (he _).symm.trans e
          exact ce_iretE C (ce_sok aK aV B0) hH e d12_withId_38
def f12_withId (F : Nat) (x1 : Int32) (x2 : Int32) (h : Hp) : Option (Int32 × Hp) :=
  Option.bind (ce_it (fun (st : Int32 × Hp) => f12_withId_b2 F x1 x2 st.1 st.2) F ((0 : Int32), h)) (fun o2w => match o2w with
    | .inl z => some z
    | .inr o2 =>
      some ((-1 : Int32), o2))
set_option maxRecDepth 20000 in
theorem c12_withId (l : Launch) (D : va_G) (ad : Nat → Nat) (cA : Nat → ClassId) (aK aV : Nat → Nat) (B0 : Nat) (hA : ce_Ad ad B0) (F : Nat) (x1 : Int32) (x2 : Int32)  (h : Hp) (r : Int32 × Hp) (e : f12_withId F x1 x2 h = some r) : ce_Ct l D ad cA B0 (ce_St aK aV B0) y12_withId b12_withId 4 (some .int) 0 0 0 0 [.ref (ad 68), .int x1, .int x2] h (some (.int r.1)) r.2 := by
  refine ce_enter hA (by decide) rfl (Nat.le_of_ble_eq_true rfl) (fun p e0 s m below meth c ls C hH hl => ?_)
  have hl : lv_has ls 4 [(0, .ref (ad 68)), (1, .int x1), (2, .int x2)] := hl
  have hx := C.1
  have hb := C.2.1
  have e : Option.bind _ some = some r := (congrArg (fun z => Option.bind z some) e).trans rfl
  unfold f12_withId at e
  refine lv_iconst (v := (0 : Int32)) hx hb d12_withId_0 (by decide) ?_
  refine lv_istore_n (lv' := [(3, .int (0 : Int32)), (0, .ref (ad 68)), (1, .int x1), (2, .int x2)]) hx hb d12_withId_1 rfl hl (by decide) rfl (fun ls hl => ?_)
  refine l12_withId_2 C F x1 x2  r _ (fun  h_2 H locs ls hH hl e => ?_) (fun z => rfl) F (0 : Int32) h _ _ _ hH (lv_sub hl [1, 2, 3, 0] rfl) (ce_as e)
  try dsimp only at e
  refine lv_iconst (v := (-1 : Int32)) hx hb d12_withId_45 (by decide) ?_
  exact ce_iretE C (ce_sok aK aV B0) hH e d12_withId_46
abbrev b12_named_ : ByteArray := prog_14_method_55_code
def y12_named_ : MethodName := ⟨cn_12, "named", "(II)I"⟩
theorem d12_named__0 : decode b12_named_ 0 = .ok (.aload_n 0, 1) := by decide +kernel
theorem d12_named__1 : decode b12_named_ 1 = .ok (.iload_n 1, 1) := by decide +kernel
theorem d12_named__2 : decode b12_named_ 2 = .ok (.invokevirtual 267, 3) := by decide +kernel
theorem d12_named__5 : decode b12_named_ 5 = .ok (.istore_n 3, 1) := by decide +kernel
theorem d12_named__6 : decode b12_named_ 6 = .ok (.iload_n 3, 1) := by decide +kernel
theorem d12_named__7 : decode b12_named_ 7 = .ok (.ifCond .ge 5, 3) := by decide +kernel
theorem d12_named__10 : decode b12_named_ 10 = .ok (.iload_n 3, 1) := by decide +kernel
theorem d12_named__11 : decode b12_named_ 11 = .ok (.ireturn, 1) := by decide +kernel
theorem d12_named__12 : decode b12_named_ 12 = .ok (.aload_n 0, 1) := by decide +kernel
theorem d12_named__13 : decode b12_named_ 13 = .ok (.iload_n 1, 1) := by decide +kernel
theorem d12_named__14 : decode b12_named_ 14 = .ok (.invokevirtual 279, 3) := by decide +kernel
theorem d12_named__17 : decode b12_named_ 17 = .ok (.aload_n 0, 1) := by decide +kernel
theorem d12_named__18 : decode b12_named_ 18 = .ok (.iload_n 1, 1) := by decide +kernel
theorem d12_named__19 : decode b12_named_ 19 = .ok (.iload_n 2, 1) := by decide +kernel
theorem d12_named__20 : decode b12_named_ 20 = .ok (.invokevirtual 282, 3) := by decide +kernel
theorem d12_named__23 : decode b12_named_ 23 = .ok (.ireturn, 1) := by decide +kernel
theorem mc12_withId : Cond.code y12_withId b12_withId 4 (some .int) ∈ ce_cm := ce_cm_of (List.mem_of_getElem? (i := 1465) (by decide +kernel)) (by decide +kernel)
theorem ml_12_282 : Cond.methodLink cn_12 282 y12_withId ∈ ce_cm := ce_cm_of (List.mem_of_getElem? (i := 1462) (by decide +kernel)) (by decide +kernel)
theorem mi12_withId : Cond.instanceMethod y12_withId ∈ ce_cm := ce_cm_of (List.mem_of_getElem? (i := 1464) (by decide +kernel)) (by decide +kernel)
theorem ms12_withId : Cond.selects cn_12 y12_withId y12_withId ∈ ce_cm := ce_cm_of (List.mem_of_getElem? (i := 65) (by decide +kernel)) (by decide +kernel)
def f12_named_ (F : Nat) (x1 : Int32) (x2 : Int32) (h : Hp) : Option (Int32 × Hp) :=
  Option.bind (f12_whyNot F x1 h) (fun o2 =>
    if 0 ≤ o2.1 then
      Option.bind (f12_laysIds F x1 o2.2) (fun o14 =>
        Option.bind (f12_withId F x1 x2 o14) (fun o20 =>
          some (o20.1, o20.2)))
    else
      some (o2.1, o2.2))
set_option maxRecDepth 20000 in
theorem c12_named_ (l : Launch) (D : va_G) (ad : Nat → Nat) (cA : Nat → ClassId) (aK aV : Nat → Nat) (B0 : Nat) (hA : ce_Ad ad B0) (F : Nat) (x1 : Int32) (x2 : Int32)  (h : Hp) (r : Int32 × Hp) (e : f12_named_ F x1 x2 h = some r) : ce_Ct l D ad cA B0 (ce_St aK aV B0) y12_named_ b12_named_ 4 (some .int) 15 350 0 0 [.ref (ad 68), .int x1, .int x2] h (some (.int r.1)) r.2 := by
  refine ce_enter hA (by decide) rfl (Nat.le_of_ble_eq_true rfl) (fun p e0 s m below meth c ls C hH hl => ?_)
  have hl : lv_has ls 4 [(0, .ref (ad 68)), (1, .int x1), (2, .int x2)] := hl
  have hx := C.1
  have hb := C.2.1
  have e : Option.bind _ some = some r := (congrArg (fun z => Option.bind z some) e).trans rfl
  unfold f12_named_ at e
  refine lv_aload_n hx hb d12_named__0 rfl (lv_at hl 0 rfl) ?_
  refine lv_iload_n hx hb d12_named__1 rfl (lv_at hl 1 rfl) ?_
  obtain ⟨o2, eo2, e⟩ := ce_bd e
  refine ce_callV (As := [.int x1]) (rest := []) C (ce_sok aK aV B0) hH (c12_whyNot l D ad cA aK aV B0 C.2.2.2.2.2.2.1 F x1  h o2 eo2) lo_68.1 lo_68.2.choose_spec rfl rfl mc12_whyNot ml_12_267 mi12_whyNot ms12_whyNot mI_12 (n := 1) (by decide) rfl ⟨Nat.le_of_ble_eq_true rfl, Nat.le_of_ble_eq_true rfl⟩ ⟨Nat.le_of_ble_eq_true rfl, Nat.le_of_ble_eq_true rfl⟩ hl.1 rfl (Nat.le_of_ble_eq_true rfl) d12_named__2 (fun H locs hH => ?_)
  refine W.eq (g2 := F0 m 5 ls [.int o2.1]) rfl ?_
  refine lv_istore_n (lv' := [(3, .int o2.1), (0, .ref (ad 68)), (1, .int x1), (2, .int x2)]) hx hb d12_named__5 rfl hl (by decide) rfl (fun ls hl => ?_)
  refine lv_iload_n hx hb d12_named__6 rfl (lv_at hl 0 rfl) ?_
  refine lv_if_ge (tgt := 12) hx hb d12_named__7 (by decide) (fun hc7 => ?_) (fun hc7 => ?_)
  · have e := ce_if1 e hc7
    refine lv_aload_n hx hb d12_named__12 rfl (lv_at hl 1 rfl) ?_
    refine lv_iload_n hx hb d12_named__13 rfl (lv_at hl 2 rfl) ?_
    obtain ⟨o14, eo14, e⟩ := ce_bd e
    refine ce_callV (As := [.int x1]) (rest := []) C (ce_sok aK aV B0) hH (c12_laysIds l D ad cA aK aV B0 C.2.2.2.2.2.2.1 F x1  o2.2 o14 eo14) lo_68.1 lo_68.2.choose_spec rfl rfl mc12_laysIds ml_12_279 mi12_laysIds ms12_laysIds mI_12 (n := 1) (by decide) rfl ⟨Nat.le_of_ble_eq_true rfl, Nat.le_of_ble_eq_true rfl⟩ ⟨Nat.le_of_ble_eq_true rfl, Nat.le_of_ble_eq_true rfl⟩ hl.1 rfl (Nat.le_of_ble_eq_true rfl) d12_named__14 (fun H locs hH => ?_)
    refine W.eq (g2 := F0 m 17 ls []) rfl ?_
    refine lv_aload_n hx hb d12_named__17 rfl (lv_at hl 1 rfl) ?_
    refine lv_iload_n hx hb d12_named__18 rfl (lv_at hl 2 rfl) ?_
    refine lv_iload_n hx hb d12_named__19 rfl (lv_at hl 3 rfl) ?_
    obtain ⟨o20, eo20, e⟩ := ce_bd e
    refine ce_callV (As := [.int x1, .int x2]) (rest := []) C (ce_sok aK aV B0) hH (c12_withId l D ad cA aK aV B0 C.2.2.2.2.2.2.1 F x1 x2  o14 o20 eo20) lo_68.1 lo_68.2.choose_spec rfl rfl mc12_withId ml_12_282 mi12_withId ms12_withId mI_12 (n := 2) (by decide) rfl ⟨Nat.le_of_ble_eq_true rfl, Nat.le_of_ble_eq_true rfl⟩ ⟨Nat.le_of_ble_eq_true rfl, Nat.le_of_ble_eq_true rfl⟩ hl.1 rfl (Nat.le_of_ble_eq_true rfl) d12_named__20 (fun H locs hH => ?_)
    refine W.eq (g2 := F0 m 23 ls [.int o20.1]) rfl ?_
    exact ce_iretE C (ce_sok aK aV B0) hH e d12_named__23
  · have e := ce_if0 e hc7
    refine lv_iload_n hx hb d12_named__10 rfl (lv_at hl 0 rfl) ?_
    exact ce_iretE C (ce_sok aK aV B0) hH e d12_named__11
abbrev b12_size : ByteArray := prog_14_method_56_code
def y12_size : MethodName := ⟨cn_12, "size", "(I)I"⟩
theorem d12_size_0 : decode b12_size 0 = .ok (.aload_n 0, 1) := by decide +kernel
theorem d12_size_1 : decode b12_size 1 = .ok (.iload_n 1, 1) := by decide +kernel
theorem d12_size_2 : decode b12_size 2 = .ok (.invokevirtual 220, 3) := by decide +kernel
theorem d12_size_5 : decode b12_size 5 = .ok (.ifCond .eq 11, 3) := by decide +kernel
theorem d12_size_8 : decode b12_size 8 = .ok (.aload_n 0, 1) := by decide +kernel
theorem d12_size_9 : decode b12_size 9 = .ok (.iload_n 1, 1) := by decide +kernel
theorem d12_size_10 : decode b12_size 10 = .ok (.invokevirtual 230, 3) := by decide +kernel
theorem d12_size_13 : decode b12_size 13 = .ok (.goto 5, 3) := by decide +kernel
theorem d12_size_16 : decode b12_size 16 = .ok (.bipush (-2), 2) := by decide +kernel
theorem d12_size_18 : decode b12_size 18 = .ok (.ireturn, 1) := by decide +kernel
def f12_size (F : Nat) (x1 : Int32) (h : Hp) : Option (Int32 × Hp) :=
  Option.bind (f12_isNode F x1 h) (fun o2 =>
    if o2.1 = 0 then
      some ((-2 : Int32), o2.2)
    else
      Option.bind (f12_sizeOf F x1 o2.2) (fun o10 =>
        some (o10.1, o10.2)))
set_option maxRecDepth 20000 in
theorem c12_size (l : Launch) (D : va_G) (ad : Nat → Nat) (cA : Nat → ClassId) (aK aV : Nat → Nat) (B0 : Nat) (hA : ce_Ad ad B0) (F : Nat) (x1 : Int32)  (h : Hp) (r : Int32 × Hp) (e : f12_size F x1 h = some r) : ce_Ct l D ad cA B0 (ce_St aK aV B0) y12_size b12_size 2 (some .int) 3 67 0 0 [.ref (ad 68), .int x1] h (some (.int r.1)) r.2 := by
  refine ce_enter hA (by decide) rfl (Nat.le_of_ble_eq_true rfl) (fun p e0 s m below meth c ls C hH hl => ?_)
  have hl : lv_has ls 2 [(0, .ref (ad 68)), (1, .int x1)] := hl
  have hx := C.1
  have hb := C.2.1
  have e : Option.bind _ some = some r := (congrArg (fun z => Option.bind z some) e).trans rfl
  unfold f12_size at e
  refine lv_aload_n hx hb d12_size_0 rfl (lv_at hl 0 rfl) ?_
  refine lv_iload_n hx hb d12_size_1 rfl (lv_at hl 1 rfl) ?_
  obtain ⟨o2, eo2, e⟩ := ce_bd e
  refine ce_callV (As := [.int x1]) (rest := []) C (ce_sok aK aV B0) hH (c12_isNode l D ad cA aK aV B0 C.2.2.2.2.2.2.1 F x1  h o2 eo2) lo_68.1 lo_68.2.choose_spec rfl rfl mc12_isNode ml_12_220 mi12_isNode ms12_isNode mI_12 (n := 1) (by decide) rfl ⟨Nat.le_of_ble_eq_true rfl, Nat.le_of_ble_eq_true rfl⟩ ⟨Nat.le_of_ble_eq_true rfl, Nat.le_of_ble_eq_true rfl⟩ hl.1 rfl (Nat.le_of_ble_eq_true rfl) d12_size_2 (fun H locs hH => ?_)
  refine W.eq (g2 := F0 m 5 ls [.int o2.1]) rfl ?_
  refine lv_if_eq (tgt := 16) hx hb d12_size_5 (by decide) (fun hc5 => ?_) (fun hc5 => ?_)
  · have e := ce_if1 e hc5
    refine lv_bipush (v := (-2 : Int32)) hx hb d12_size_16 (by decide) ?_
    exact ce_iretE C (ce_sok aK aV B0) hH e d12_size_18
  · have e := ce_if0 e hc5
    refine lv_aload_n hx hb d12_size_8 rfl (lv_at hl 0 rfl) ?_
    refine lv_iload_n hx hb d12_size_9 rfl (lv_at hl 1 rfl) ?_
    obtain ⟨o10, eo10, e⟩ := ce_bd e
    refine ce_callV (As := [.int x1]) (rest := []) C (ce_sok aK aV B0) hH (c12_sizeOf l D ad cA aK aV B0 C.2.2.2.2.2.2.1 F x1  o2.2 o10 eo10) lo_68.1 lo_68.2.choose_spec rfl rfl mc12_sizeOf ml_12_230 mi12_sizeOf ms12_sizeOf mI_12 (n := 1) (by decide) rfl ⟨Nat.le_of_ble_eq_true rfl, Nat.le_of_ble_eq_true rfl⟩ ⟨Nat.le_of_ble_eq_true rfl, Nat.le_of_ble_eq_true rfl⟩ hl.1 rfl (Nat.le_of_ble_eq_true rfl) d12_size_10 (fun H locs hH => ?_)
    refine W.eq (g2 := F0 m 13 ls [.int o10.1]) rfl ?_
    refine lv_goto (tgt := 18) hx hb d12_size_13 (by decide) ?_
    exact ce_iretE C (ce_sok aK aV B0) hH e d12_size_18
abbrev b12_parent : ByteArray := prog_14_method_57_code
def y12_parent : MethodName := ⟨cn_12, "parent", "(I)I"⟩
theorem d12_parent_0 : decode b12_parent 0 = .ok (.aload_n 0, 1) := by decide +kernel
theorem d12_parent_1 : decode b12_parent 1 = .ok (.iload_n 1, 1) := by decide +kernel
theorem d12_parent_2 : decode b12_parent 2 = .ok (.invokevirtual 267, 3) := by decide +kernel
theorem d12_parent_5 : decode b12_parent 5 = .ok (.istore_n 2, 1) := by decide +kernel
theorem d12_parent_6 : decode b12_parent 6 = .ok (.iload_n 2, 1) := by decide +kernel
theorem d12_parent_7 : decode b12_parent 7 = .ok (.ifCond .ge 7, 3) := by decide +kernel
theorem d12_parent_10 : decode b12_parent 10 = .ok (.iload_n 2, 1) := by decide +kernel
theorem d12_parent_11 : decode b12_parent 11 = .ok (.goto 8, 3) := by decide +kernel
theorem d12_parent_14 : decode b12_parent 14 = .ok (.aload_n 0, 1) := by decide +kernel
theorem d12_parent_15 : decode b12_parent 15 = .ok (.iload_n 1, 1) := by decide +kernel
theorem d12_parent_16 : decode b12_parent 16 = .ok (.invokevirtual 285, 3) := by decide +kernel
theorem d12_parent_19 : decode b12_parent 19 = .ok (.ireturn, 1) := by decide +kernel
theorem mc12_parentOf : Cond.code y12_parentOf b12_parentOf 2 (some .int) ∈ ce_cm := ce_cm_of (List.mem_of_getElem? (i := 1477) (by decide +kernel)) (by decide +kernel)
theorem ml_12_285 : Cond.methodLink cn_12 285 y12_parentOf ∈ ce_cm := ce_cm_of (List.mem_of_getElem? (i := 1474) (by decide +kernel)) (by decide +kernel)
theorem mi12_parentOf : Cond.instanceMethod y12_parentOf ∈ ce_cm := ce_cm_of (List.mem_of_getElem? (i := 1476) (by decide +kernel)) (by decide +kernel)
theorem ms12_parentOf : Cond.selects cn_12 y12_parentOf y12_parentOf ∈ ce_cm := ce_cm_of (List.mem_of_getElem? (i := 66) (by decide +kernel)) (by decide +kernel)
def f12_parent (F : Nat) (x1 : Int32) (h : Hp) : Option (Int32 × Hp) :=
  Option.bind (f12_whyNot F x1 h) (fun o2 =>
    if 0 ≤ o2.1 then
      Option.bind (f12_parentOf F x1 o2.2) (fun o16 =>
        some (o16.1, o16.2))
    else
      some (o2.1, o2.2))
set_option maxRecDepth 20000 in
theorem c12_parent (l : Launch) (D : va_G) (ad : Nat → Nat) (cA : Nat → ClassId) (aK aV : Nat → Nat) (B0 : Nat) (hA : ce_Ad ad B0) (F : Nat) (x1 : Int32)  (h : Hp) (r : Int32 × Hp) (e : f12_parent F x1 h = some r) : ce_Ct l D ad cA B0 (ce_St aK aV B0) y12_parent b12_parent 3 (some .int) 5 112 0 0 [.ref (ad 68), .int x1] h (some (.int r.1)) r.2 := by
  refine ce_enter hA (by decide) rfl (Nat.le_of_ble_eq_true rfl) (fun p e0 s m below meth c ls C hH hl => ?_)
  have hl : lv_has ls 3 [(0, .ref (ad 68)), (1, .int x1)] := hl
  have hx := C.1
  have hb := C.2.1
  have e : Option.bind _ some = some r := (congrArg (fun z => Option.bind z some) e).trans rfl
  unfold f12_parent at e
  refine lv_aload_n hx hb d12_parent_0 rfl (lv_at hl 0 rfl) ?_
  refine lv_iload_n hx hb d12_parent_1 rfl (lv_at hl 1 rfl) ?_
  obtain ⟨o2, eo2, e⟩ := ce_bd e
  refine ce_callV (As := [.int x1]) (rest := []) C (ce_sok aK aV B0) hH (c12_whyNot l D ad cA aK aV B0 C.2.2.2.2.2.2.1 F x1  h o2 eo2) lo_68.1 lo_68.2.choose_spec rfl rfl mc12_whyNot ml_12_267 mi12_whyNot ms12_whyNot mI_12 (n := 1) (by decide) rfl ⟨Nat.le_of_ble_eq_true rfl, Nat.le_of_ble_eq_true rfl⟩ ⟨Nat.le_of_ble_eq_true rfl, Nat.le_of_ble_eq_true rfl⟩ hl.1 rfl (Nat.le_of_ble_eq_true rfl) d12_parent_2 (fun H locs hH => ?_)
  refine W.eq (g2 := F0 m 5 ls [.int o2.1]) rfl ?_
  refine lv_istore_n (lv' := [(2, .int o2.1), (0, .ref (ad 68)), (1, .int x1)]) hx hb d12_parent_5 rfl hl (by decide) rfl (fun ls hl => ?_)
  refine lv_iload_n hx hb d12_parent_6 rfl (lv_at hl 0 rfl) ?_
  refine lv_if_ge (tgt := 14) hx hb d12_parent_7 (by decide) (fun hc7 => ?_) (fun hc7 => ?_)
  · have e := ce_if1 e hc7
    refine lv_aload_n hx hb d12_parent_14 rfl (lv_at hl 1 rfl) ?_
    refine lv_iload_n hx hb d12_parent_15 rfl (lv_at hl 2 rfl) ?_
    obtain ⟨o16, eo16, e⟩ := ce_bd e
    refine ce_callV (As := [.int x1]) (rest := []) C (ce_sok aK aV B0) hH (c12_parentOf l D ad cA aK aV B0 C.2.2.2.2.2.2.1 F x1  o2.2 o16 eo16) lo_68.1 lo_68.2.choose_spec rfl rfl mc12_parentOf ml_12_285 mi12_parentOf ms12_parentOf mI_12 (n := 1) (by decide) rfl ⟨Nat.le_of_ble_eq_true rfl, Nat.le_of_ble_eq_true rfl⟩ ⟨Nat.le_of_ble_eq_true rfl, Nat.le_of_ble_eq_true rfl⟩ hl.1 rfl (Nat.le_of_ble_eq_true rfl) d12_parent_16 (fun H locs hH => ?_)
    refine W.eq (g2 := F0 m 19 ls [.int o16.1]) rfl ?_
    exact ce_iretE C (ce_sok aK aV B0) hH e d12_parent_19
  · have e := ce_if0 e hc7
    refine lv_iload_n hx hb d12_parent_10 rfl (lv_at hl 0 rfl) ?_
    refine lv_goto (tgt := 19) hx hb d12_parent_11 (by decide) ?_
    exact ce_iretE C (ce_sok aK aV B0) hH e d12_parent_19
abbrev b12_depthOf : ByteArray := prog_14_method_58_code
def y12_depthOf : MethodName := ⟨cn_12, "depthOf", "(I)I"⟩
theorem d12_depthOf_0 : decode b12_depthOf 0 = .ok (.iconst 0, 1) := by decide +kernel
theorem d12_depthOf_1 : decode b12_depthOf 1 = .ok (.istore_n 2, 1) := by decide +kernel
theorem d12_depthOf_2 : decode b12_depthOf 2 = .ok (.iload_n 1, 1) := by decide +kernel
theorem d12_depthOf_3 : decode b12_depthOf 3 = .ok (.istore_n 3, 1) := by decide +kernel
theorem d12_depthOf_4 : decode b12_depthOf 4 = .ok (.aload_n 0, 1) := by decide +kernel
theorem d12_depthOf_5 : decode b12_depthOf 5 = .ok (.iload_n 3, 1) := by decide +kernel
theorem d12_depthOf_6 : decode b12_depthOf 6 = .ok (.invokevirtual 285, 3) := by decide +kernel
theorem d12_depthOf_9 : decode b12_depthOf 9 = .ok (.iconst (-1), 1) := by decide +kernel
theorem d12_depthOf_10 : decode b12_depthOf 10 = .ok (.if_icmp .eq 15, 3) := by decide +kernel
theorem d12_depthOf_13 : decode b12_depthOf 13 = .ok (.iinc 2 1, 3) := by decide +kernel
theorem d12_depthOf_16 : decode b12_depthOf 16 = .ok (.aload_n 0, 1) := by decide +kernel
theorem d12_depthOf_17 : decode b12_depthOf 17 = .ok (.iload_n 3, 1) := by decide +kernel
theorem d12_depthOf_18 : decode b12_depthOf 18 = .ok (.invokevirtual 285, 3) := by decide +kernel
theorem d12_depthOf_21 : decode b12_depthOf 21 = .ok (.istore_n 3, 1) := by decide +kernel
theorem d12_depthOf_22 : decode b12_depthOf 22 = .ok (.goto (-18), 3) := by decide +kernel
theorem d12_depthOf_25 : decode b12_depthOf 25 = .ok (.iload_n 2, 1) := by decide +kernel
theorem d12_depthOf_26 : decode b12_depthOf 26 = .ok (.ireturn, 1) := by decide +kernel
def f12_depthOf_b4 (F : Nat) (x2 : Int32) (x3 : Int32) (h : Hp) : Option ((Int32 × Int32 × Hp) ⊕ (Int32 × Hp)) :=
  Option.bind (f12_parentOf F x3 h) (fun o6 =>
    if o6.1 = (-1 : Int32) then
      some (.inr (x2, o6.2))
    else
      Option.bind (f12_parentOf F x3 o6.2) (fun o18 =>
        some (.inl (x2 + (1 : Int32), o18.1, o18.2))))
set_option maxRecDepth 20000 in
theorem l12_depthOf_4 (C : ce_Cx p s m args c meth b12_depthOf 4 (some .int) cn_12 D ad cA B0 (ce_St aK aV B0)) (F : Nat)   (r : Int32 × Hp) (g : (Int32 × Hp) → Option (Int32 × Hp)) (hx : ∀ (x2 : Int32) (h : Hp) (H : Heap) (locs : List Loc) (ls : Array Slot), ce_H D ad cA B0 [] s h H locs → lv_has ls 4 [(2, .int x2)] → g (x2, h) = some r → W p l e0 { frames := 2, cells := 0, slots := 0, locals := 42 } s m args below meth c H locs 0 0 (MQ below (ce_Q D ad cA B0 (ce_St aK aV B0) (some (.int r.1)) r.2) args s 0 0 (fun q => B0 ≤ q)) (F0 m 25 ls [])) : ∀ (n : Nat) (x2 : Int32) (x3 : Int32) (h : Hp) (H : Heap) (locs : List Loc) (ls : Array Slot), ce_H D ad cA B0 [] s h H locs → lv_has ls 4 [(0, .ref (ad 68)), (2, .int x2), (3, .int x3)] → Option.bind (ce_it (fun (st : Int32 × Int32 × Hp) => f12_depthOf_b4 F  st.1 st.2.1 st.2.2) n (x2, x3, h)) g = some r → W p l e0 { frames := 2, cells := 0, slots := 0, locals := 42 } s m args below meth c H locs 0 0 (MQ below (ce_Q D ad cA B0 (ce_St aK aV B0) (some (.int r.1)) r.2) args s 0 0 (fun q => B0 ≤ q)) (F0 m 4 ls []) := by
  intro n
  induction n with
  | zero =>
    intro x2 x3 h H locs ls hH hl e
    exact absurd e (fun z => by cases z)
  | succ n ih =>
    intro x2 x3 h H locs ls hH hl e
    have hx9 := C.1
    have hb := C.2.1
    have e : Option.bind (f12_depthOf_b4 F  x2 x3 h) _ = some r := ce_it_bd e
    unfold f12_depthOf_b4 at e
    refine lv_aload_n hx9 hb d12_depthOf_4 rfl (lv_at hl 0 rfl) ?_
    refine lv_iload_n hx9 hb d12_depthOf_5 rfl (lv_at hl 2 rfl) ?_
    obtain ⟨o6, eo6, e⟩ := ce_bd e
    refine ce_callV (As := [.int x3]) (rest := []) C (ce_sok aK aV B0) hH (c12_parentOf l D ad cA aK aV B0 C.2.2.2.2.2.2.1 F x3  h o6 eo6) lo_68.1 lo_68.2.choose_spec rfl rfl mc12_parentOf ml_12_285 mi12_parentOf ms12_parentOf mI_12 (n := 1) (by decide) rfl ⟨Nat.le_of_ble_eq_true rfl, Nat.le_of_ble_eq_true rfl⟩ ⟨Nat.le_of_ble_eq_true rfl, Nat.le_of_ble_eq_true rfl⟩ hl.1 rfl (Nat.le_of_ble_eq_true rfl) d12_depthOf_6 (fun H locs hH => ?_)
    refine W.eq (g2 := F0 m 9 ls [.int o6.1]) rfl ?_
    refine lv_iconst (v := (-1 : Int32)) hx9 hb d12_depthOf_9 (by decide) ?_
    refine lv_icmp_eq (tgt := 25) hx9 hb d12_depthOf_10 (by decide) (fun hc10 => ?_) (fun hc10 => ?_)
    · have e := ce_if1 e hc10
      exact hx x2 o6.2 _ _ _ hH (lv_sub hl [1] rfl) e
    · have e := ce_if0 e hc10
      refine lv_iinc (v := x2 + (1 : Int32)) (lv' := [(2, .int (x2 + (1 : Int32))), (0, .ref (ad 68)), (3, .int x3)]) hx9 hb d12_depthOf_13 hl (k := 1) rfl rfl (by decide) rfl (fun ls hl => ?_)
      refine lv_aload_n hx9 hb d12_depthOf_16 rfl (lv_at hl 1 rfl) ?_
      refine lv_iload_n hx9 hb d12_depthOf_17 rfl (lv_at hl 2 rfl) ?_
      obtain ⟨o18, eo18, e⟩ := ce_bd e
      refine ce_callV (As := [.int x3]) (rest := []) C (ce_sok aK aV B0) hH (c12_parentOf l D ad cA aK aV B0 C.2.2.2.2.2.2.1 F x3  o6.2 o18 eo18) lo_68.1 lo_68.2.choose_spec rfl rfl mc12_parentOf ml_12_285 mi12_parentOf ms12_parentOf mI_12 (n := 1) (by decide) rfl ⟨Nat.le_of_ble_eq_true rfl, Nat.le_of_ble_eq_true rfl⟩ ⟨Nat.le_of_ble_eq_true rfl, Nat.le_of_ble_eq_true rfl⟩ hl.1 rfl (Nat.le_of_ble_eq_true rfl) d12_depthOf_18 (fun H locs hH => ?_)
      refine W.eq (g2 := F0 m 21 ls [.int o18.1]) rfl ?_
      refine lv_istore_n (lv' := [(3, .int o18.1), (2, .int (x2 + (1 : Int32))), (0, .ref (ad 68))]) hx9 hb d12_depthOf_21 rfl hl (by decide) rfl (fun ls hl => ?_)
      refine lv_goto (tgt := 4) hx9 hb d12_depthOf_22 (by decide) ?_
      exact ih (x2 + (1 : Int32)) o18.1 o18.2 _ _ _ hH (lv_sub hl [2, 1, 0] rfl) e
def f12_depthOf (F : Nat) (x1 : Int32) (h : Hp) : Option (Int32 × Hp) :=
  Option.bind (ce_it (fun (st : Int32 × Int32 × Hp) => f12_depthOf_b4 F  st.1 st.2.1 st.2.2) F ((0 : Int32), x1, h)) (fun o4 =>
    some (o4.1, o4.2))
set_option maxRecDepth 20000 in
theorem c12_depthOf (l : Launch) (D : va_G) (ad : Nat → Nat) (cA : Nat → ClassId) (aK aV : Nat → Nat) (B0 : Nat) (hA : ce_Ad ad B0) (F : Nat) (x1 : Int32)  (h : Hp) (r : Int32 × Hp) (e : f12_depthOf F x1 h = some r) : ce_Ct l D ad cA B0 (ce_St aK aV B0) y12_depthOf b12_depthOf 4 (some .int) 2 42 0 0 [.ref (ad 68), .int x1] h (some (.int r.1)) r.2 := by
  refine ce_enter hA (by decide) rfl (Nat.le_of_ble_eq_true rfl) (fun p e0 s m below meth c ls C hH hl => ?_)
  have hl : lv_has ls 4 [(0, .ref (ad 68)), (1, .int x1)] := hl
  have hx := C.1
  have hb := C.2.1
  have e : Option.bind _ some = some r := (congrArg (fun z => Option.bind z some) e).trans rfl
  unfold f12_depthOf at e
  refine lv_iconst (v := (0 : Int32)) hx hb d12_depthOf_0 (by decide) ?_
  refine lv_istore_n (lv' := [(2, .int (0 : Int32)), (0, .ref (ad 68)), (1, .int x1)]) hx hb d12_depthOf_1 rfl hl (by decide) rfl (fun ls hl => ?_)
  refine lv_iload_n hx hb d12_depthOf_2 rfl (lv_at hl 2 rfl) ?_
  refine lv_istore_n (lv' := [(3, .int x1), (2, .int (0 : Int32)), (0, .ref (ad 68)), (1, .int x1)]) hx hb d12_depthOf_3 rfl hl (by decide) rfl (fun ls hl => ?_)
  refine l12_depthOf_4 C F   r _ (fun y4_2 h_4 H locs ls hH hl e => ?_) F (0 : Int32) x1 h _ _ _ hH (lv_sub hl [2, 1, 0] rfl) (ce_as e)
  try dsimp only at e
  refine lv_iload_n hx hb d12_depthOf_25 rfl (lv_at hl 0 rfl) ?_
  exact ce_iretE C (ce_sok aK aV B0) hH e d12_depthOf_26
abbrev b12_depth : ByteArray := prog_14_method_59_code
def y12_depth : MethodName := ⟨cn_12, "depth", "(I)I"⟩
theorem d12_depth_0 : decode b12_depth 0 = .ok (.aload_n 0, 1) := by decide +kernel
theorem d12_depth_1 : decode b12_depth 1 = .ok (.iload_n 1, 1) := by decide +kernel
theorem d12_depth_2 : decode b12_depth 2 = .ok (.invokevirtual 267, 3) := by decide +kernel
theorem d12_depth_5 : decode b12_depth 5 = .ok (.istore_n 2, 1) := by decide +kernel
theorem d12_depth_6 : decode b12_depth 6 = .ok (.iload_n 2, 1) := by decide +kernel
theorem d12_depth_7 : decode b12_depth 7 = .ok (.ifCond .ge 7, 3) := by decide +kernel
theorem d12_depth_10 : decode b12_depth 10 = .ok (.iload_n 2, 1) := by decide +kernel
theorem d12_depth_11 : decode b12_depth 11 = .ok (.goto 8, 3) := by decide +kernel
theorem d12_depth_14 : decode b12_depth 14 = .ok (.aload_n 0, 1) := by decide +kernel
theorem d12_depth_15 : decode b12_depth 15 = .ok (.iload_n 1, 1) := by decide +kernel
theorem d12_depth_16 : decode b12_depth 16 = .ok (.invokevirtual 288, 3) := by decide +kernel
theorem d12_depth_19 : decode b12_depth 19 = .ok (.ireturn, 1) := by decide +kernel
theorem mc12_depthOf : Cond.code y12_depthOf b12_depthOf 4 (some .int) ∈ ce_cm := ce_cm_of (List.mem_of_getElem? (i := 1485) (by decide +kernel)) (by decide +kernel)
theorem ml_12_288 : Cond.methodLink cn_12 288 y12_depthOf ∈ ce_cm := ce_cm_of (List.mem_of_getElem? (i := 1482) (by decide +kernel)) (by decide +kernel)
theorem mi12_depthOf : Cond.instanceMethod y12_depthOf ∈ ce_cm := ce_cm_of (List.mem_of_getElem? (i := 1484) (by decide +kernel)) (by decide +kernel)
theorem ms12_depthOf : Cond.selects cn_12 y12_depthOf y12_depthOf ∈ ce_cm := ce_cm_of (List.mem_of_getElem? (i := 67) (by decide +kernel)) (by decide +kernel)
def f12_depth (F : Nat) (x1 : Int32) (h : Hp) : Option (Int32 × Hp) :=
  Option.bind (f12_whyNot F x1 h) (fun o2 =>
    if 0 ≤ o2.1 then
      Option.bind (f12_depthOf F x1 o2.2) (fun o16 =>
        some (o16.1, o16.2))
    else
      some (o2.1, o2.2))
set_option maxRecDepth 20000 in
theorem c12_depth (l : Launch) (D : va_G) (ad : Nat → Nat) (cA : Nat → ClassId) (aK aV : Nat → Nat) (B0 : Nat) (hA : ce_Ad ad B0) (F : Nat) (x1 : Int32)  (h : Hp) (r : Int32 × Hp) (e : f12_depth F x1 h = some r) : ce_Ct l D ad cA B0 (ce_St aK aV B0) y12_depth b12_depth 3 (some .int) 5 112 0 0 [.ref (ad 68), .int x1] h (some (.int r.1)) r.2 := by
  refine ce_enter hA (by decide) rfl (Nat.le_of_ble_eq_true rfl) (fun p e0 s m below meth c ls C hH hl => ?_)
  have hl : lv_has ls 3 [(0, .ref (ad 68)), (1, .int x1)] := hl
  have hx := C.1
  have hb := C.2.1
  have e : Option.bind _ some = some r := (congrArg (fun z => Option.bind z some) e).trans rfl
  unfold f12_depth at e
  refine lv_aload_n hx hb d12_depth_0 rfl (lv_at hl 0 rfl) ?_
  refine lv_iload_n hx hb d12_depth_1 rfl (lv_at hl 1 rfl) ?_
  obtain ⟨o2, eo2, e⟩ := ce_bd e
  refine ce_callV (As := [.int x1]) (rest := []) C (ce_sok aK aV B0) hH (c12_whyNot l D ad cA aK aV B0 C.2.2.2.2.2.2.1 F x1  h o2 eo2) lo_68.1 lo_68.2.choose_spec rfl rfl mc12_whyNot ml_12_267 mi12_whyNot ms12_whyNot mI_12 (n := 1) (by decide) rfl ⟨Nat.le_of_ble_eq_true rfl, Nat.le_of_ble_eq_true rfl⟩ ⟨Nat.le_of_ble_eq_true rfl, Nat.le_of_ble_eq_true rfl⟩ hl.1 rfl (Nat.le_of_ble_eq_true rfl) d12_depth_2 (fun H locs hH => ?_)
  refine W.eq (g2 := F0 m 5 ls [.int o2.1]) rfl ?_
  refine lv_istore_n (lv' := [(2, .int o2.1), (0, .ref (ad 68)), (1, .int x1)]) hx hb d12_depth_5 rfl hl (by decide) rfl (fun ls hl => ?_)
  refine lv_iload_n hx hb d12_depth_6 rfl (lv_at hl 0 rfl) ?_
  refine lv_if_ge (tgt := 14) hx hb d12_depth_7 (by decide) (fun hc7 => ?_) (fun hc7 => ?_)
  · have e := ce_if1 e hc7
    refine lv_aload_n hx hb d12_depth_14 rfl (lv_at hl 1 rfl) ?_
    refine lv_iload_n hx hb d12_depth_15 rfl (lv_at hl 2 rfl) ?_
    obtain ⟨o16, eo16, e⟩ := ce_bd e
    refine ce_callV (As := [.int x1]) (rest := []) C (ce_sok aK aV B0) hH (c12_depthOf l D ad cA aK aV B0 C.2.2.2.2.2.2.1 F x1  o2.2 o16 eo16) lo_68.1 lo_68.2.choose_spec rfl rfl mc12_depthOf ml_12_288 mi12_depthOf ms12_depthOf mI_12 (n := 1) (by decide) rfl ⟨Nat.le_of_ble_eq_true rfl, Nat.le_of_ble_eq_true rfl⟩ ⟨Nat.le_of_ble_eq_true rfl, Nat.le_of_ble_eq_true rfl⟩ hl.1 rfl (Nat.le_of_ble_eq_true rfl) d12_depth_16 (fun H locs hH => ?_)
    refine W.eq (g2 := F0 m 19 ls [.int o16.1]) rfl ?_
    exact ce_iretE C (ce_sok aK aV B0) hH e d12_depth_19
  · have e := ce_if0 e hc7
    refine lv_iload_n hx hb d12_depth_10 rfl (lv_at hl 0 rfl) ?_
    refine lv_goto (tgt := 19) hx hb d12_depth_11 (by decide) ?_
    exact ce_iretE C (ce_sok aK aV B0) hH e d12_depth_19
abbrev b12_isBelow : ByteArray := prog_14_method_60_code
def y12_isBelow : MethodName := ⟨cn_12, "isBelow", "(II)Z"⟩
theorem d12_isBelow_0 : decode b12_isBelow 0 = .ok (.iload_n 1, 1) := by decide +kernel
theorem d12_isBelow_1 : decode b12_isBelow 1 = .ok (.istore_n 3, 1) := by decide +kernel
theorem d12_isBelow_2 : decode b12_isBelow 2 = .ok (.iload_n 3, 1) := by decide +kernel
theorem d12_isBelow_3 : decode b12_isBelow 3 = .ok (.iconst (-1), 1) := by decide +kernel
theorem d12_isBelow_4 : decode b12_isBelow 4 = .ok (.if_icmp .eq 17, 3) := by decide +kernel
theorem d12_isBelow_7 : decode b12_isBelow 7 = .ok (.iload_n 3, 1) := by decide +kernel
theorem d12_isBelow_8 : decode b12_isBelow 8 = .ok (.iload_n 2, 1) := by decide +kernel
theorem d12_isBelow_9 : decode b12_isBelow 9 = .ok (.if_icmp .eq 12, 3) := by decide +kernel
theorem d12_isBelow_12 : decode b12_isBelow 12 = .ok (.aload_n 0, 1) := by decide +kernel
theorem d12_isBelow_13 : decode b12_isBelow 13 = .ok (.iload_n 3, 1) := by decide +kernel
theorem d12_isBelow_14 : decode b12_isBelow 14 = .ok (.invokevirtual 285, 3) := by decide +kernel
theorem d12_isBelow_17 : decode b12_isBelow 17 = .ok (.istore_n 3, 1) := by decide +kernel
theorem d12_isBelow_18 : decode b12_isBelow 18 = .ok (.goto (-16), 3) := by decide +kernel
theorem d12_isBelow_21 : decode b12_isBelow 21 = .ok (.iload_n 3, 1) := by decide +kernel
theorem d12_isBelow_22 : decode b12_isBelow 22 = .ok (.iload_n 2, 1) := by decide +kernel
theorem d12_isBelow_23 : decode b12_isBelow 23 = .ok (.if_icmp .ne 7, 3) := by decide +kernel
theorem d12_isBelow_26 : decode b12_isBelow 26 = .ok (.iconst 1, 1) := by decide +kernel
theorem d12_isBelow_27 : decode b12_isBelow 27 = .ok (.goto 4, 3) := by decide +kernel
theorem d12_isBelow_30 : decode b12_isBelow 30 = .ok (.iconst 0, 1) := by decide +kernel
theorem d12_isBelow_31 : decode b12_isBelow 31 = .ok (.ireturn, 1) := by decide +kernel
def f12_isBelow_b2 (F : Nat) (x2 : Int32) (x3 : Int32) (h : Hp) : Option ((Int32 × Hp) ⊕ (Int32 × Hp)) :=
  if x3 = (-1 : Int32) then
    some (.inr (x3, h))
  else
    if x3 = x2 then
      some (.inr (x3, h))
    else
      Option.bind (f12_parentOf F x3 h) (fun o14 =>
        some (.inl (o14.1, o14.2)))
set_option maxRecDepth 20000 in
theorem l12_isBelow_2 (C : ce_Cx p s m args c meth b12_isBelow 4 (some .boolean) cn_12 D ad cA B0 (ce_St aK aV B0)) (F : Nat) (x2 : Int32)  (r : Int32 × Hp) (g : (Int32 × Hp) → Option (Int32 × Hp)) (hx : ∀ (x3 : Int32) (h : Hp) (H : Heap) (locs : List Loc) (ls : Array Slot), ce_H D ad cA B0 [] s h H locs → lv_has ls 4 [(2, .int x2), (3, .int x3)] → g (x3, h) = some r → W p l e0 { frames := 2, cells := 0, slots := 0, locals := 42 } s m args below meth c H locs 0 0 (MQ below (ce_Q D ad cA B0 (ce_St aK aV B0) (some (.int r.1)) r.2) args s 0 0 (fun q => B0 ≤ q)) (F0 m 21 ls [])) : ∀ (n : Nat) (x3 : Int32) (h : Hp) (H : Heap) (locs : List Loc) (ls : Array Slot), ce_H D ad cA B0 [] s h H locs → lv_has ls 4 [(0, .ref (ad 68)), (2, .int x2), (3, .int x3)] → Option.bind (ce_it (fun (st : Int32 × Hp) => f12_isBelow_b2 F x2 st.1 st.2) n (x3, h)) g = some r → W p l e0 { frames := 2, cells := 0, slots := 0, locals := 42 } s m args below meth c H locs 0 0 (MQ below (ce_Q D ad cA B0 (ce_St aK aV B0) (some (.int r.1)) r.2) args s 0 0 (fun q => B0 ≤ q)) (F0 m 2 ls []) := by
  intro n
  induction n with
  | zero =>
    intro x3 h H locs ls hH hl e
    exact absurd e (fun z => by cases z)
  | succ n ih =>
    intro x3 h H locs ls hH hl e
    have hx9 := C.1
    have hb := C.2.1
    have e : Option.bind (f12_isBelow_b2 F x2 x3 h) _ = some r := ce_it_bd e
    unfold f12_isBelow_b2 at e
    refine lv_iload_n hx9 hb d12_isBelow_2 rfl (lv_at hl 2 rfl) ?_
    refine lv_iconst (v := (-1 : Int32)) hx9 hb d12_isBelow_3 (by decide) ?_
    refine lv_icmp_eq (tgt := 21) hx9 hb d12_isBelow_4 (by decide) (fun hc4 => ?_) (fun hc4 => ?_)
    · have e := ce_if1 e hc4
      exact hx x3 h _ _ _ hH (lv_sub hl [1, 2] rfl) e
    · have e := ce_if0 e hc4
      refine lv_iload_n hx9 hb d12_isBelow_7 rfl (lv_at hl 2 rfl) ?_
      refine lv_iload_n hx9 hb d12_isBelow_8 rfl (lv_at hl 1 rfl) ?_
      refine lv_icmp_eq (tgt := 21) hx9 hb d12_isBelow_9 (by decide) (fun hc9 => ?_) (fun hc9 => ?_)
      · have e := ce_if1 e hc9
        exact hx x3 h _ _ _ hH (lv_sub hl [1, 2] rfl) e
      · have e := ce_if0 e hc9
        refine lv_aload_n hx9 hb d12_isBelow_12 rfl (lv_at hl 0 rfl) ?_
        refine lv_iload_n hx9 hb d12_isBelow_13 rfl (lv_at hl 2 rfl) ?_
        obtain ⟨o14, eo14, e⟩ := ce_bd e
        refine ce_callV (As := [.int x3]) (rest := []) C (ce_sok aK aV B0) hH (c12_parentOf l D ad cA aK aV B0 C.2.2.2.2.2.2.1 F x3  h o14 eo14) lo_68.1 lo_68.2.choose_spec rfl rfl mc12_parentOf ml_12_285 mi12_parentOf ms12_parentOf mI_12 (n := 1) (by decide) rfl ⟨Nat.le_of_ble_eq_true rfl, Nat.le_of_ble_eq_true rfl⟩ ⟨Nat.le_of_ble_eq_true rfl, Nat.le_of_ble_eq_true rfl⟩ hl.1 rfl (Nat.le_of_ble_eq_true rfl) d12_isBelow_14 (fun H locs hH => ?_)
        refine W.eq (g2 := F0 m 17 ls [.int o14.1]) rfl ?_
        refine lv_istore_n (lv' := [(3, .int o14.1), (0, .ref (ad 68)), (2, .int x2)]) hx9 hb d12_isBelow_17 rfl hl (by decide) rfl (fun ls hl => ?_)
        refine lv_goto (tgt := 2) hx9 hb d12_isBelow_18 (by decide) ?_
        exact ih o14.1 o14.2 _ _ _ hH (lv_sub hl [1, 2, 0] rfl) e
def f12_isBelow (F : Nat) (x1 : Int32) (x2 : Int32) (h : Hp) : Option (Int32 × Hp) :=
  Option.bind (ce_it (fun (st : Int32 × Hp) => f12_isBelow_b2 F x2 st.1 st.2) F (x1, h)) (fun o2 =>
    if o2.1 = x2 then
      some ((1 : Int32), o2.2)
    else
      some ((0 : Int32), o2.2))
set_option maxRecDepth 20000 in
theorem c12_isBelow (l : Launch) (D : va_G) (ad : Nat → Nat) (cA : Nat → ClassId) (aK aV : Nat → Nat) (B0 : Nat) (hA : ce_Ad ad B0) (F : Nat) (x1 : Int32) (x2 : Int32)  (h : Hp) (r : Int32 × Hp) (e : f12_isBelow F x1 x2 h = some r) : ce_Ct l D ad cA B0 (ce_St aK aV B0) y12_isBelow b12_isBelow 4 (some .boolean) 2 42 0 0 [.ref (ad 68), .int x1, .int x2] h (some (.int r.1)) r.2 := by
  refine ce_enter hA (by decide) rfl (Nat.le_of_ble_eq_true rfl) (fun p e0 s m below meth c ls C hH hl => ?_)
  have hl : lv_has ls 4 [(0, .ref (ad 68)), (1, .int x1), (2, .int x2)] := hl
  have hx := C.1
  have hb := C.2.1
  have e : Option.bind _ some = some r := (congrArg (fun z => Option.bind z some) e).trans rfl
  unfold f12_isBelow at e
  refine lv_iload_n hx hb d12_isBelow_0 rfl (lv_at hl 1 rfl) ?_
  refine lv_istore_n (lv' := [(3, .int x1), (0, .ref (ad 68)), (1, .int x1), (2, .int x2)]) hx hb d12_isBelow_1 rfl hl (by decide) rfl (fun ls hl => ?_)
  refine l12_isBelow_2 C F x2  r _ (fun y2_3 h_2 H locs ls hH hl e => ?_) F x1 h _ _ _ hH (lv_sub hl [1, 3, 0] rfl) (ce_as e)
  try dsimp only at e
  refine lv_iload_n hx hb d12_isBelow_21 rfl (lv_at hl 1 rfl) ?_
  refine lv_iload_n hx hb d12_isBelow_22 rfl (lv_at hl 0 rfl) ?_
  refine lv_icmp_ne (tgt := 30) hx hb d12_isBelow_23 (by decide) (fun hc23 => ?_) (fun hc23 => ?_)
  · have e := ce_if0 e hc23
    refine lv_iconst (v := (0 : Int32)) hx hb d12_isBelow_30 (by decide) ?_
    exact ce_zretE C (ce_sok aK aV B0) hH (Or.inl rfl) e d12_isBelow_31
  · have e := ce_if1 e hc23
    refine lv_iconst (v := (1 : Int32)) hx hb d12_isBelow_26 (by decide) ?_
    refine lv_goto (tgt := 31) hx hb d12_isBelow_27 (by decide) ?_
    exact ce_zretE C (ce_sok aK aV B0) hH (Or.inr rfl) e d12_isBelow_31
abbrev b12_below : ByteArray := prog_14_method_61_code
def y12_below : MethodName := ⟨cn_12, "below", "(I)I"⟩
theorem d12_below_0 : decode b12_below 0 = .ok (.aload_n 0, 1) := by decide +kernel
theorem d12_below_1 : decode b12_below 1 = .ok (.iload_n 1, 1) := by decide +kernel
theorem d12_below_2 : decode b12_below 2 = .ok (.invokevirtual 267, 3) := by decide +kernel
theorem d12_below_5 : decode b12_below 5 = .ok (.istore_n 2, 1) := by decide +kernel
theorem d12_below_6 : decode b12_below 6 = .ok (.iload_n 2, 1) := by decide +kernel
theorem d12_below_7 : decode b12_below 7 = .ok (.ifCond .ge 5, 3) := by decide +kernel
theorem d12_below_10 : decode b12_below 10 = .ok (.iload_n 2, 1) := by decide +kernel
theorem d12_below_11 : decode b12_below 11 = .ok (.ireturn, 1) := by decide +kernel
theorem d12_below_12 : decode b12_below 12 = .ok (.iconst 0, 1) := by decide +kernel
theorem d12_below_13 : decode b12_below 13 = .ok (.istore_n 3, 1) := by decide +kernel
theorem d12_below_14 : decode b12_below 14 = .ok (.iconst 0, 1) := by decide +kernel
theorem d12_below_15 : decode b12_below 15 = .ok (.istore 4, 2) := by decide +kernel
theorem d12_below_17 : decode b12_below 17 = .ok (.iload 4, 2) := by decide +kernel
theorem d12_below_19 : decode b12_below 19 = .ok (.aload_n 0, 1) := by decide +kernel
theorem d12_below_20 : decode b12_below 20 = .ok (.getfield 7, 3) := by decide +kernel
theorem d12_below_23 : decode b12_below 23 = .ok (.iconst 2, 1) := by decide +kernel
theorem d12_below_24 : decode b12_below 24 = .ok (.iaload, 1) := by decide +kernel
theorem d12_below_25 : decode b12_below 25 = .ok (.if_icmp .ge 27, 3) := by decide +kernel
theorem d12_below_28 : decode b12_below 28 = .ok (.iload_n 3, 1) := by decide +kernel
theorem d12_below_29 : decode b12_below 29 = .ok (.aload_n 0, 1) := by decide +kernel
theorem d12_below_30 : decode b12_below 30 = .ok (.iload 4, 2) := by decide +kernel
theorem d12_below_32 : decode b12_below 32 = .ok (.iload_n 1, 1) := by decide +kernel
theorem d12_below_33 : decode b12_below 33 = .ok (.invokevirtual 291, 3) := by decide +kernel
theorem d12_below_36 : decode b12_below 36 = .ok (.ifCond .eq 7, 3) := by decide +kernel
theorem d12_below_39 : decode b12_below 39 = .ok (.iconst 1, 1) := by decide +kernel
theorem d12_below_40 : decode b12_below 40 = .ok (.goto 4, 3) := by decide +kernel
theorem d12_below_43 : decode b12_below 43 = .ok (.iconst 0, 1) := by decide +kernel
theorem d12_below_44 : decode b12_below 44 = .ok (.iadd, 1) := by decide +kernel
theorem d12_below_45 : decode b12_below 45 = .ok (.istore_n 3, 1) := by decide +kernel
theorem d12_below_46 : decode b12_below 46 = .ok (.iinc 4 1, 3) := by decide +kernel
theorem d12_below_49 : decode b12_below 49 = .ok (.goto (-32), 3) := by decide +kernel
theorem d12_below_52 : decode b12_below 52 = .ok (.iload_n 3, 1) := by decide +kernel
theorem d12_below_53 : decode b12_below 53 = .ok (.ireturn, 1) := by decide +kernel
theorem mc12_isBelow : Cond.code y12_isBelow b12_isBelow 4 (some .boolean) ∈ ce_cm := ce_cm_of (List.mem_of_getElem? (i := 1493) (by decide +kernel)) (by decide +kernel)
theorem ml_12_291 : Cond.methodLink cn_12 291 y12_isBelow ∈ ce_cm := ce_cm_of (List.mem_of_getElem? (i := 1490) (by decide +kernel)) (by decide +kernel)
theorem mi12_isBelow : Cond.instanceMethod y12_isBelow ∈ ce_cm := ce_cm_of (List.mem_of_getElem? (i := 1492) (by decide +kernel)) (by decide +kernel)
theorem ms12_isBelow : Cond.selects cn_12 y12_isBelow y12_isBelow ∈ ce_cm := ce_cm_of (List.mem_of_getElem? (i := 68) (by decide +kernel)) (by decide +kernel)
def f12_below_b17 (F : Nat) (x1 : Int32) (x3 : Int32) (x4 : Int32) (h : Hp) : Option ((Int32 × Int32 × Hp) ⊕ (Int32 × Hp)) :=
  if (h 69 ((2 : Int32)).toNatClampNeg) ≤ x4 then
    some (.inr (x3, h))
  else
    Option.bind (f12_isBelow F x4 x1 h) (fun o33 =>
      if o33.1 = 0 then
        some (.inl (x3 + (0 : Int32), x4 + (1 : Int32), o33.2))
      else
        some (.inl (x3 + (1 : Int32), x4 + (1 : Int32), o33.2)))
set_option maxRecDepth 20000 in
theorem l12_below_17 (C : ce_Cx p s m args c meth b12_below 5 (some .int) cn_12 D ad cA B0 (ce_St aK aV B0)) (F : Nat) (x1 : Int32)  (r : Int32 × Hp) (g : (Int32 × Hp) → Option (Int32 × Hp)) (hx : ∀ (x3 : Int32) (h : Hp) (H : Heap) (locs : List Loc) (ls : Array Slot), ce_H D ad cA B0 [] s h H locs → lv_has ls 5 [(3, .int x3)] → g (x3, h) = some r → W p l e0 { frames := 5, cells := 0, slots := 0, locals := 112 } s m args below meth c H locs 0 0 (MQ below (ce_Q D ad cA B0 (ce_St aK aV B0) (some (.int r.1)) r.2) args s 0 0 (fun q => B0 ≤ q)) (F0 m 52 ls [])) : ∀ (n : Nat) (x3 : Int32) (x4 : Int32) (h : Hp) (H : Heap) (locs : List Loc) (ls : Array Slot), ce_H D ad cA B0 [] s h H locs → lv_has ls 5 [(0, .ref (ad 68)), (1, .int x1), (3, .int x3), (4, .int x4)] → Option.bind (ce_it (fun (st : Int32 × Int32 × Hp) => f12_below_b17 F x1 st.1 st.2.1 st.2.2) n (x3, x4, h)) g = some r → W p l e0 { frames := 5, cells := 0, slots := 0, locals := 112 } s m args below meth c H locs 0 0 (MQ below (ce_Q D ad cA B0 (ce_St aK aV B0) (some (.int r.1)) r.2) args s 0 0 (fun q => B0 ≤ q)) (F0 m 17 ls []) := by
  intro n
  induction n with
  | zero =>
    intro x3 x4 h H locs ls hH hl e
    exact absurd e (fun z => by cases z)
  | succ n ih =>
    intro x3 x4 h H locs ls hH hl e
    have hx9 := C.1
    have hb := C.2.1
    have e : Option.bind (f12_below_b17 F x1 x3 x4 h) _ = some r := ce_it_bd e
    unfold f12_below_b17 at e
    refine lv_iload hx9 hb d12_below_17 (lv_at hl 3 rfl) ?_
    refine lv_aload_n hx9 hb d12_below_19 rfl (lv_at hl 0 rfl) ?_
    refine gf_12_7 C hH d12_below_20 ?_
    refine lv_iconst (v := (2 : Int32)) hx9 hb d12_below_23 (by decide) ?_
    refine ce_iald C hH lc_69.1 lc_69.2 (ce_in_vp (by decide)) d12_below_24 ?_
    refine lv_icmp_ge (tgt := 52) hx9 hb d12_below_25 (by decide) (fun hc25 => ?_) (fun hc25 => ?_)
    · have e := ce_if1 e hc25
      exact hx x3 h _ _ _ hH (lv_sub hl [2] rfl) e
    · have e := ce_if0 e hc25
      refine lv_iload_n hx9 hb d12_below_28 rfl (lv_at hl 2 rfl) ?_
      refine lv_aload_n hx9 hb d12_below_29 rfl (lv_at hl 0 rfl) ?_
      refine lv_iload hx9 hb d12_below_30 (lv_at hl 3 rfl) ?_
      refine lv_iload_n hx9 hb d12_below_32 rfl (lv_at hl 1 rfl) ?_
      obtain ⟨o33, eo33, e⟩ := ce_bd e
      refine ce_callV (As := [.int x4, .int x1]) (rest := [.int x3]) C (ce_sok aK aV B0) hH (c12_isBelow l D ad cA aK aV B0 C.2.2.2.2.2.2.1 F x4 x1  h o33 eo33) lo_68.1 lo_68.2.choose_spec rfl rfl mc12_isBelow ml_12_291 mi12_isBelow ms12_isBelow mI_12 (n := 2) (by decide) rfl ⟨Nat.le_of_ble_eq_true rfl, Nat.le_of_ble_eq_true rfl⟩ ⟨Nat.le_of_ble_eq_true rfl, Nat.le_of_ble_eq_true rfl⟩ hl.1 rfl (Nat.le_of_ble_eq_true rfl) d12_below_33 (fun H locs hH => ?_)
      refine W.eq (g2 := F0 m 36 ls [.int o33.1, .int x3]) rfl ?_
      refine lv_if_eq (tgt := 43) hx9 hb d12_below_36 (by decide) (fun hc36 => ?_) (fun hc36 => ?_)
      · have e := ce_if1 e hc36
        refine lv_iconst (v := (0 : Int32)) hx9 hb d12_below_43 (by decide) ?_
        refine lv_iadd hx9 hb d12_below_44 ?_
        refine lv_istore_n (lv' := [(3, .int (x3 + (0 : Int32))), (0, .ref (ad 68)), (1, .int x1), (4, .int x4)]) hx9 hb d12_below_45 rfl hl (by decide) rfl (fun ls hl => ?_)
        refine lv_iinc (v := x4 + (1 : Int32)) (lv' := [(4, .int (x4 + (1 : Int32))), (3, .int (x3 + (0 : Int32))), (0, .ref (ad 68)), (1, .int x1)]) hx9 hb d12_below_46 hl (k := 3) rfl rfl (by decide) rfl (fun ls hl => ?_)
        refine lv_goto (tgt := 17) hx9 hb d12_below_49 (by decide) ?_
        exact ih (x3 + (0 : Int32)) (x4 + (1 : Int32)) o33.2 _ _ _ hH (lv_sub hl [2, 3, 1, 0] rfl) e
      · have e := ce_if0 e hc36
        refine lv_iconst (v := (1 : Int32)) hx9 hb d12_below_39 (by decide) ?_
        refine lv_goto (tgt := 44) hx9 hb d12_below_40 (by decide) ?_
        refine lv_iadd hx9 hb d12_below_44 ?_
        refine lv_istore_n (lv' := [(3, .int (x3 + (1 : Int32))), (0, .ref (ad 68)), (1, .int x1), (4, .int x4)]) hx9 hb d12_below_45 rfl hl (by decide) rfl (fun ls hl => ?_)
        refine lv_iinc (v := x4 + (1 : Int32)) (lv' := [(4, .int (x4 + (1 : Int32))), (3, .int (x3 + (1 : Int32))), (0, .ref (ad 68)), (1, .int x1)]) hx9 hb d12_below_46 hl (k := 3) rfl rfl (by decide) rfl (fun ls hl => ?_)
        refine lv_goto (tgt := 17) hx9 hb d12_below_49 (by decide) ?_
        exact ih (x3 + (1 : Int32)) (x4 + (1 : Int32)) o33.2 _ _ _ hH (lv_sub hl [2, 3, 1, 0] rfl) e
def f12_below (F : Nat) (x1 : Int32) (h : Hp) : Option (Int32 × Hp) :=
  Option.bind (f12_whyNot F x1 h) (fun o2 =>
    if 0 ≤ o2.1 then
      Option.bind (ce_it (fun (st : Int32 × Int32 × Hp) => f12_below_b17 F x1 st.1 st.2.1 st.2.2) F ((0 : Int32), (0 : Int32), o2.2)) (fun o17 =>
        some (o17.1, o17.2))
    else
      some (o2.1, o2.2))
set_option maxRecDepth 20000 in
theorem c12_below (l : Launch) (D : va_G) (ad : Nat → Nat) (cA : Nat → ClassId) (aK aV : Nat → Nat) (B0 : Nat) (hA : ce_Ad ad B0) (F : Nat) (x1 : Int32)  (h : Hp) (r : Int32 × Hp) (e : f12_below F x1 h = some r) : ce_Ct l D ad cA B0 (ce_St aK aV B0) y12_below b12_below 5 (some .int) 5 112 0 0 [.ref (ad 68), .int x1] h (some (.int r.1)) r.2 := by
  refine ce_enter hA (by decide) rfl (Nat.le_of_ble_eq_true rfl) (fun p e0 s m below meth c ls C hH hl => ?_)
  have hl : lv_has ls 5 [(0, .ref (ad 68)), (1, .int x1)] := hl
  have hx := C.1
  have hb := C.2.1
  have e : Option.bind _ some = some r := (congrArg (fun z => Option.bind z some) e).trans rfl
  unfold f12_below at e
  refine lv_aload_n hx hb d12_below_0 rfl (lv_at hl 0 rfl) ?_
  refine lv_iload_n hx hb d12_below_1 rfl (lv_at hl 1 rfl) ?_
  obtain ⟨o2, eo2, e⟩ := ce_bd e
  refine ce_callV (As := [.int x1]) (rest := []) C (ce_sok aK aV B0) hH (c12_whyNot l D ad cA aK aV B0 C.2.2.2.2.2.2.1 F x1  h o2 eo2) lo_68.1 lo_68.2.choose_spec rfl rfl mc12_whyNot ml_12_267 mi12_whyNot ms12_whyNot mI_12 (n := 1) (by decide) rfl ⟨Nat.le_of_ble_eq_true rfl, Nat.le_of_ble_eq_true rfl⟩ ⟨Nat.le_of_ble_eq_true rfl, Nat.le_of_ble_eq_true rfl⟩ hl.1 rfl (Nat.le_of_ble_eq_true rfl) d12_below_2 (fun H locs hH => ?_)
  refine W.eq (g2 := F0 m 5 ls [.int o2.1]) rfl ?_
  refine lv_istore_n (lv' := [(2, .int o2.1), (0, .ref (ad 68)), (1, .int x1)]) hx hb d12_below_5 rfl hl (by decide) rfl (fun ls hl => ?_)
  refine lv_iload_n hx hb d12_below_6 rfl (lv_at hl 0 rfl) ?_
  refine lv_if_ge (tgt := 12) hx hb d12_below_7 (by decide) (fun hc7 => ?_) (fun hc7 => ?_)
  · have e := ce_if1 e hc7
    refine lv_iconst (v := (0 : Int32)) hx hb d12_below_12 (by decide) ?_
    refine lv_istore_n (lv' := [(3, .int (0 : Int32)), (2, .int o2.1), (0, .ref (ad 68)), (1, .int x1)]) hx hb d12_below_13 rfl hl (by decide) rfl (fun ls hl => ?_)
    refine lv_iconst (v := (0 : Int32)) hx hb d12_below_14 (by decide) ?_
    refine lv_istore (lv' := [(4, .int (0 : Int32)), (3, .int (0 : Int32)), (2, .int o2.1), (0, .ref (ad 68)), (1, .int x1)]) hx hb d12_below_15 hl (by decide) rfl (fun ls hl => ?_)
    refine l12_below_17 C F x1  r _ (fun y17_3 h_17 H locs ls hH hl e => ?_) F (0 : Int32) (0 : Int32) o2.2 _ _ _ hH (lv_sub hl [3, 4, 1, 0] rfl) (ce_as e)
    try dsimp only at e
    refine lv_iload_n hx hb d12_below_52 rfl (lv_at hl 0 rfl) ?_
    exact ce_iretE C (ce_sok aK aV B0) hH e d12_below_53
  · have e := ce_if0 e hc7
    refine lv_iload_n hx hb d12_below_10 rfl (lv_at hl 0 rfl) ?_
    exact ce_iretE C (ce_sok aK aV B0) hH e d12_below_11
abbrev b12_goesOut : ByteArray := prog_14_method_62_code
def y12_goesOut : MethodName := ⟨cn_12, "goesOut", "(IIII)V"⟩
theorem d12_goesOut_0 : decode b12_goesOut 0 = .ok (.aload_n 0, 1) := by decide +kernel
theorem d12_goesOut_1 : decode b12_goesOut 1 = .ok (.getfield 59, 3) := by decide +kernel
theorem d12_goesOut_4 : decode b12_goesOut 4 = .ok (.iload_n 1, 1) := by decide +kernel
theorem d12_goesOut_5 : decode b12_goesOut 5 = .ok (.iload_n 3, 1) := by decide +kernel
theorem d12_goesOut_6 : decode b12_goesOut 6 = .ok (.iastore, 1) := by decide +kernel
theorem d12_goesOut_7 : decode b12_goesOut 7 = .ok (.aload_n 0, 1) := by decide +kernel
theorem d12_goesOut_8 : decode b12_goesOut 8 = .ok (.getfield 62, 3) := by decide +kernel
theorem d12_goesOut_11 : decode b12_goesOut 11 = .ok (.iload_n 1, 1) := by decide +kernel
theorem d12_goesOut_12 : decode b12_goesOut 12 = .ok (.iload 4, 2) := by decide +kernel
theorem d12_goesOut_14 : decode b12_goesOut 14 = .ok (.iastore, 1) := by decide +kernel
theorem d12_goesOut_15 : decode b12_goesOut 15 = .ok (.iconst 4, 1) := by decide +kernel
theorem d12_goesOut_16 : decode b12_goesOut 16 = .ok (.iload_n 1, 1) := by decide +kernel
theorem d12_goesOut_17 : decode b12_goesOut 17 = .ok (.imul, 1) := by decide +kernel
theorem d12_goesOut_18 : decode b12_goesOut 18 = .ok (.istore 5, 2) := by decide +kernel
theorem d12_goesOut_20 : decode b12_goesOut 20 = .ok (.iload 5, 2) := by decide +kernel
theorem d12_goesOut_22 : decode b12_goesOut 22 = .ok (.iconst 4, 1) := by decide +kernel
theorem d12_goesOut_23 : decode b12_goesOut 23 = .ok (.iload_n 1, 1) := by decide +kernel
theorem d12_goesOut_24 : decode b12_goesOut 24 = .ok (.imul, 1) := by decide +kernel
theorem d12_goesOut_25 : decode b12_goesOut 25 = .ok (.iconst 4, 1) := by decide +kernel
theorem d12_goesOut_26 : decode b12_goesOut 26 = .ok (.iadd, 1) := by decide +kernel
theorem d12_goesOut_27 : decode b12_goesOut 27 = .ok (.if_icmp .ge 74, 3) := by decide +kernel
theorem d12_goesOut_30 : decode b12_goesOut 30 = .ok (.aload_n 0, 1) := by decide +kernel
theorem d12_goesOut_31 : decode b12_goesOut 31 = .ok (.iload 5, 2) := by decide +kernel
theorem d12_goesOut_33 : decode b12_goesOut 33 = .ok (.invokevirtual 224, 3) := by decide +kernel
theorem d12_goesOut_36 : decode b12_goesOut 36 = .ok (.ifCond .lt 59, 3) := by decide +kernel
theorem d12_goesOut_39 : decode b12_goesOut 39 = .ok (.aload_n 0, 1) := by decide +kernel
theorem d12_goesOut_40 : decode b12_goesOut 40 = .ok (.iload 5, 2) := by decide +kernel
theorem d12_goesOut_42 : decode b12_goesOut 42 = .ok (.invokevirtual 224, 3) := by decide +kernel
theorem d12_goesOut_45 : decode b12_goesOut 45 = .ok (.iload_n 2, 1) := by decide +kernel
theorem d12_goesOut_46 : decode b12_goesOut 46 = .ok (.if_icmp .eq 49, 3) := by decide +kernel
theorem d12_goesOut_49 : decode b12_goesOut 49 = .ok (.aload_n 0, 1) := by decide +kernel
theorem d12_goesOut_50 : decode b12_goesOut 50 = .ok (.aload_n 0, 1) := by decide +kernel
theorem d12_goesOut_51 : decode b12_goesOut 51 = .ok (.iload 5, 2) := by decide +kernel
theorem d12_goesOut_53 : decode b12_goesOut 53 = .ok (.invokevirtual 224, 3) := by decide +kernel
theorem d12_goesOut_56 : decode b12_goesOut 56 = .ok (.iconst 4, 1) := by decide +kernel
theorem d12_goesOut_57 : decode b12_goesOut 57 = .ok (.idiv, 1) := by decide +kernel
theorem d12_goesOut_58 : decode b12_goesOut 58 = .ok (.iload 5, 2) := by decide +kernel
theorem d12_goesOut_60 : decode b12_goesOut 60 = .ok (.iload_n 3, 1) := by decide +kernel
theorem d12_goesOut_61 : decode b12_goesOut 61 = .ok (.aload_n 0, 1) := by decide +kernel
theorem d12_goesOut_62 : decode b12_goesOut 62 = .ok (.getfield 7, 3) := by decide +kernel
theorem d12_goesOut_65 : decode b12_goesOut 65 = .ok (.bipush 85, 2) := by decide +kernel
theorem d12_goesOut_67 : decode b12_goesOut 67 = .ok (.iload 5, 2) := by decide +kernel
theorem d12_goesOut_69 : decode b12_goesOut 69 = .ok (.iadd, 1) := by decide +kernel
theorem d12_goesOut_70 : decode b12_goesOut 70 = .ok (.iaload, 1) := by decide +kernel
theorem d12_goesOut_71 : decode b12_goesOut 71 = .ok (.iadd, 1) := by decide +kernel
theorem d12_goesOut_72 : decode b12_goesOut 72 = .ok (.iload 4, 2) := by decide +kernel
theorem d12_goesOut_74 : decode b12_goesOut 74 = .ok (.ifCond .le 12, 3) := by decide +kernel
theorem d12_goesOut_77 : decode b12_goesOut 77 = .ok (.aload_n 0, 1) := by decide +kernel
theorem d12_goesOut_78 : decode b12_goesOut 78 = .ok (.getfield 7, 3) := by decide +kernel
theorem d12_goesOut_81 : decode b12_goesOut 81 = .ok (.iconst 1, 1) := by decide +kernel
theorem d12_goesOut_82 : decode b12_goesOut 82 = .ok (.iaload, 1) := by decide +kernel
theorem d12_goesOut_83 : decode b12_goesOut 83 = .ok (.goto 4, 3) := by decide +kernel
theorem d12_goesOut_86 : decode b12_goesOut 86 = .ok (.iconst 0, 1) := by decide +kernel
theorem d12_goesOut_87 : decode b12_goesOut 87 = .ok (.iadd, 1) := by decide +kernel
theorem d12_goesOut_88 : decode b12_goesOut 88 = .ok (.iload 4, 2) := by decide +kernel
theorem d12_goesOut_90 : decode b12_goesOut 90 = .ok (.iconst 1, 1) := by decide +kernel
theorem d12_goesOut_91 : decode b12_goesOut 91 = .ok (.iadd, 1) := by decide +kernel
theorem d12_goesOut_92 : decode b12_goesOut 92 = .ok (.invokevirtual 294, 3) := by decide +kernel
theorem d12_goesOut_95 : decode b12_goesOut 95 = .ok (.iinc 5 1, 3) := by decide +kernel
theorem d12_goesOut_98 : decode b12_goesOut 98 = .ok (.goto (-78), 3) := by decide +kernel
theorem d12_goesOut_101 : decode b12_goesOut 101 = .ok (.return_, 1) := by decide +kernel
theorem fl_12_59 : Cond.fieldLink cn_12 59 (ft_12 25).1 (ft_12 25).2.1 (ft_12 25).2.2.1 ∈ ce_cm := ce_cm_of (List.mem_of_getElem? (i := 1146) (by decide +kernel)) (by decide +kernel)
theorem gf_12_59 (C : ce_Cx p s m args c meth cc nL ret cn_12 D ad cA B0 (ce_St aK aV B0)) (hH : ce_H D ad cA B0 X s h H locs) (hdg : decode cc pc = .ok (.getfield 59, 3)) (kk : W p l e0 R s m args below meth c H locs cells slots Q (F0 m (pc + 3) ls (.ref (ad 84) :: rest))) : W p l e0 R s m args below meth c H locs cells slots Q (F0 m pc ls (.ref (ad 68) :: rest)) := by
  exact ce_get C hH (k := 68) (ci := 12) (j := 25) (N := 43) (sj := some (some 84)) (by decide) rfl rfl fw_12 (by decide) fl_12_59 rfl hdg kk
theorem lc_84 : 84 < 96 ∧ ce_lay 84 = .inl (0, 10) := ⟨by decide, rfl⟩
theorem fl_12_62 : Cond.fieldLink cn_12 62 (ft_12 26).1 (ft_12 26).2.1 (ft_12 26).2.2.1 ∈ ce_cm := ce_cm_of (List.mem_of_getElem? (i := 1147) (by decide +kernel)) (by decide +kernel)
theorem gf_12_62 (C : ce_Cx p s m args c meth cc nL ret cn_12 D ad cA B0 (ce_St aK aV B0)) (hH : ce_H D ad cA B0 X s h H locs) (hdg : decode cc pc = .ok (.getfield 62, 3)) (kk : W p l e0 R s m args below meth c H locs cells slots Q (F0 m (pc + 3) ls (.ref (ad 85) :: rest))) : W p l e0 R s m args below meth c H locs cells slots Q (F0 m pc ls (.ref (ad 68) :: rest)) := by
  exact ce_get C hH (k := 68) (ci := 12) (j := 26) (N := 43) (sj := some (some 85)) (by decide) rfl rfl fw_12 (by decide) fl_12_62 rfl hdg kk
theorem lc_85 : 85 < 96 ∧ ce_lay 85 = .inl (0, 10) := ⟨by decide, rfl⟩
theorem mc12_goesOut : Cond.code y12_goesOut b12_goesOut 6 none ∈ ce_cm := ce_cm_of (List.mem_of_getElem? (i := 1509) (by decide +kernel)) (by decide +kernel)
theorem ml_12_294 : Cond.methodLink cn_12 294 y12_goesOut ∈ ce_cm := ce_cm_of (List.mem_of_getElem? (i := 1506) (by decide +kernel)) (by decide +kernel)
theorem mi12_goesOut : Cond.instanceMethod y12_goesOut ∈ ce_cm := ce_cm_of (List.mem_of_getElem? (i := 1508) (by decide +kernel)) (by decide +kernel)
theorem ms12_goesOut : Cond.selects cn_12 y12_goesOut y12_goesOut ∈ ce_cm := ce_cm_of (List.mem_of_getElem? (i := 71) (by decide +kernel)) (by decide +kernel)
def f12_goesOut_b20 (F : Nat) (rc : Int32 → Int32 → Int32 → Int32 → Hp → Option (Hp)) (x1 : Int32) (x2 : Int32) (x3 : Int32) (x4 : Int32) (x5 : Int32) (h : Hp) : Option ((Int32 × Hp) ⊕ (Hp)) :=
  if (((4 : Int32) * x1) + (4 : Int32)) ≤ x5 then
    some (.inr h)
  else
    Option.bind (f12_otherOf F x5 h) (fun o33 =>
      if o33.1 < 0 then
        some (.inl (x5 + (1 : Int32), o33.2))
      else
        Option.bind (f12_otherOf F x5 o33.2) (fun o42 =>
          if o42.1 = x2 then
            some (.inl (x5 + (1 : Int32), o42.2))
          else
            Option.bind (f12_otherOf F x5 o42.2) (fun o53 =>
              if ce_in ((85 : Int32) + x5) 125 = true then
                if x4 ≤ 0 then
                  Option.bind (rc (o53.1 / (4 : Int32)) x5 ((x3 + (o53.2 69 (((85 : Int32) + x5)).toNatClampNeg)) + (0 : Int32)) (x4 + (1 : Int32)) o53.2) (fun o92 =>
                    some (.inl (x5 + (1 : Int32), o92)))
                else
                  Option.bind (rc (o53.1 / (4 : Int32)) x5 ((x3 + (o53.2 69 (((85 : Int32) + x5)).toNatClampNeg)) + (o53.2 69 ((1 : Int32)).toNatClampNeg)) (x4 + (1 : Int32)) o53.2) (fun o92 =>
                    some (.inl (x5 + (1 : Int32), o92)))
              else none)))
set_option maxRecDepth 20000 in
theorem l12_goesOut_20 (C : ce_Cx p s m args c meth b12_goesOut 6 none cn_12 D ad cA B0 (ce_St aK aV B0)) (d : Nat) (rc : Int32 → Int32 → Int32 → Int32 → Hp → Option (Hp)) (hrc : ∀ (x1 : Int32) (x2 : Int32) (x3 : Int32) (x4 : Int32)  (h : Hp) (r : Hp), rc x1 x2 x3 x4 h = some r → ce_Ct l D ad cA B0 (ce_St aK aV B0) y12_goesOut b12_goesOut 6 none (0 + d) (21 + d * 25) 0 0 [.ref (ad 68), .int x1, .int x2, .int x3, .int x4] h none r) (F : Nat) (x1 : Int32) (x2 : Int32) (x3 : Int32) (x4 : Int32)  (r : Hp) (g : (Hp) → Option (Hp)) (hx : ∀  (h : Hp) (H : Heap) (locs : List Loc) (ls : Array Slot), ce_H D ad cA B0 [] s h H locs → lv_has ls 6 [] → g h = some r → W p l e0 { frames := 0 + (d + 1), cells := 0, slots := 0, locals := 21 + (d + 1) * 25 } s m args below meth c H locs 0 0 (MQ below (ce_Q D ad cA B0 (ce_St aK aV B0) none r) args s 0 0 (fun q => B0 ≤ q)) (F0 m 101 ls [])) : ∀ (n : Nat) (x5 : Int32) (h : Hp) (H : Heap) (locs : List Loc) (ls : Array Slot), ce_H D ad cA B0 [] s h H locs → lv_has ls 6 [(0, .ref (ad 68)), (1, .int x1), (2, .int x2), (3, .int x3), (4, .int x4), (5, .int x5)] → Option.bind (ce_it (fun (st : Int32 × Hp) => f12_goesOut_b20 F rc x1 x2 x3 x4 st.1 st.2) n (x5, h)) g = some r → W p l e0 { frames := 0 + (d + 1), cells := 0, slots := 0, locals := 21 + (d + 1) * 25 } s m args below meth c H locs 0 0 (MQ below (ce_Q D ad cA B0 (ce_St aK aV B0) none r) args s 0 0 (fun q => B0 ≤ q)) (F0 m 20 ls []) := by
  intro n
  induction n with
  | zero =>
    intro x5 h H locs ls hH hl e
    exact absurd e (fun z => by cases z)
  | succ n ih =>
    intro x5 h H locs ls hH hl e
    have hx9 := C.1
    have hb := C.2.1
    have e : Option.bind (f12_goesOut_b20 F rc x1 x2 x3 x4 x5 h) _ = some r := ce_it_bd e
    unfold f12_goesOut_b20 at e
    refine lv_iload hx9 hb d12_goesOut_20 (lv_at hl 5 rfl) ?_
    refine lv_iconst (v := (4 : Int32)) hx9 hb d12_goesOut_22 (by decide) ?_
    refine lv_iload_n hx9 hb d12_goesOut_23 rfl (lv_at hl 1 rfl) ?_
    refine lv_imul hx9 hb d12_goesOut_24 ?_
    refine lv_iconst (v := (4 : Int32)) hx9 hb d12_goesOut_25 (by decide) ?_
    refine lv_iadd hx9 hb d12_goesOut_26 ?_
    refine lv_icmp_ge (tgt := 101) hx9 hb d12_goesOut_27 (by decide) (fun hc27 => ?_) (fun hc27 => ?_)
    · have e := ce_if1 e hc27
      exact hx  h _ _ _ hH (lv_sub hl [] rfl) e
    · have e := ce_if0 e hc27
      refine lv_aload_n hx9 hb d12_goesOut_30 rfl (lv_at hl 0 rfl) ?_
      refine lv_iload hx9 hb d12_goesOut_31 (lv_at hl 5 rfl) ?_
      obtain ⟨o33, eo33, e⟩ := ce_bd e
      refine ce_callV (As := [.int x5]) (rest := []) C (ce_sok aK aV B0) hH (c12_otherOf l D ad cA aK aV B0 C.2.2.2.2.2.2.1 F x5  h o33 eo33) lo_68.1 lo_68.2.choose_spec rfl rfl mc12_otherOf ml_12_224 mi12_otherOf ms12_otherOf mI_12 (n := 1) (by decide) rfl ⟨show 0 + 1 ≤ 0 + (d + 1) by omega, show 8 + (2 + 11) + 0 ≤ 21 + (d + 1) * 25 by omega⟩ ⟨Nat.le_of_ble_eq_true rfl, Nat.le_of_ble_eq_true rfl⟩ hl.1 rfl (Nat.le_of_ble_eq_true rfl) d12_goesOut_33 (fun H locs hH => ?_)
      refine W.eq (g2 := F0 m 36 ls [.int o33.1]) rfl ?_
      refine lv_if_lt (tgt := 95) hx9 hb d12_goesOut_36 (by decide) (fun hc36 => ?_) (fun hc36 => ?_)
      · have e := ce_if1 e hc36
        refine lv_iinc (v := x5 + (1 : Int32)) (lv' := [(5, .int (x5 + (1 : Int32))), (0, .ref (ad 68)), (1, .int x1), (2, .int x2), (3, .int x3), (4, .int x4)]) hx9 hb d12_goesOut_95 hl (k := 5) rfl rfl (by decide) rfl (fun ls hl => ?_)
        refine lv_goto (tgt := 20) hx9 hb d12_goesOut_98 (by decide) ?_
        exact ih (x5 + (1 : Int32)) o33.2 _ _ _ hH (lv_sub hl [1, 2, 3, 4, 5, 0] rfl) e
      · have e := ce_if0 e hc36
        refine lv_aload_n hx9 hb d12_goesOut_39 rfl (lv_at hl 0 rfl) ?_
        refine lv_iload hx9 hb d12_goesOut_40 (lv_at hl 5 rfl) ?_
        obtain ⟨o42, eo42, e⟩ := ce_bd e
        refine ce_callV (As := [.int x5]) (rest := []) C (ce_sok aK aV B0) hH (c12_otherOf l D ad cA aK aV B0 C.2.2.2.2.2.2.1 F x5  o33.2 o42 eo42) lo_68.1 lo_68.2.choose_spec rfl rfl mc12_otherOf ml_12_224 mi12_otherOf ms12_otherOf mI_12 (n := 1) (by decide) rfl ⟨show 0 + 1 ≤ 0 + (d + 1) by omega, show 8 + (2 + 11) + 0 ≤ 21 + (d + 1) * 25 by omega⟩ ⟨Nat.le_of_ble_eq_true rfl, Nat.le_of_ble_eq_true rfl⟩ hl.1 rfl (Nat.le_of_ble_eq_true rfl) d12_goesOut_42 (fun H locs hH => ?_)
        refine W.eq (g2 := F0 m 45 ls [.int o42.1]) rfl ?_
        refine lv_iload_n hx9 hb d12_goesOut_45 rfl (lv_at hl 2 rfl) ?_
        refine lv_icmp_eq (tgt := 95) hx9 hb d12_goesOut_46 (by decide) (fun hc46 => ?_) (fun hc46 => ?_)
        · have e := ce_if1 e hc46
          refine lv_iinc (v := x5 + (1 : Int32)) (lv' := [(5, .int (x5 + (1 : Int32))), (0, .ref (ad 68)), (1, .int x1), (2, .int x2), (3, .int x3), (4, .int x4)]) hx9 hb d12_goesOut_95 hl (k := 5) rfl rfl (by decide) rfl (fun ls hl => ?_)
          refine lv_goto (tgt := 20) hx9 hb d12_goesOut_98 (by decide) ?_
          exact ih (x5 + (1 : Int32)) o42.2 _ _ _ hH (lv_sub hl [1, 2, 3, 4, 5, 0] rfl) e
        · have e := ce_if0 e hc46
          refine lv_aload_n hx9 hb d12_goesOut_49 rfl (lv_at hl 0 rfl) ?_
          refine lv_aload_n hx9 hb d12_goesOut_50 rfl (lv_at hl 0 rfl) ?_
          refine lv_iload hx9 hb d12_goesOut_51 (lv_at hl 5 rfl) ?_
          obtain ⟨o53, eo53, e⟩ := ce_bd e
          refine ce_callV (As := [.int x5]) (rest := [.ref (ad 68)]) C (ce_sok aK aV B0) hH (c12_otherOf l D ad cA aK aV B0 C.2.2.2.2.2.2.1 F x5  o42.2 o53 eo53) lo_68.1 lo_68.2.choose_spec rfl rfl mc12_otherOf ml_12_224 mi12_otherOf ms12_otherOf mI_12 (n := 1) (by decide) rfl ⟨show 0 + 1 ≤ 0 + (d + 1) by omega, show 8 + (2 + 11) + 0 ≤ 21 + (d + 1) * 25 by omega⟩ ⟨Nat.le_of_ble_eq_true rfl, Nat.le_of_ble_eq_true rfl⟩ hl.1 rfl (Nat.le_of_ble_eq_true rfl) d12_goesOut_53 (fun H locs hH => ?_)
          refine W.eq (g2 := F0 m 56 ls [.int o53.1, .ref (ad 68)]) rfl ?_
          refine lv_iconst (v := (4 : Int32)) hx9 hb d12_goesOut_56 (by decide) ?_
          refine lv_idiv hx9 hb d12_goesOut_57 (by decide) ?_
          refine lv_iload hx9 hb d12_goesOut_58 (lv_at hl 5 rfl) ?_
          refine lv_iload_n hx9 hb d12_goesOut_60 rfl (lv_at hl 3 rfl) ?_
          refine lv_aload_n hx9 hb d12_goesOut_61 rfl (lv_at hl 0 rfl) ?_
          refine gf_12_7 C hH d12_goesOut_62 ?_
          refine lv_bipush (v := (85 : Int32)) hx9 hb d12_goesOut_65 (by decide) ?_
          refine lv_iload hx9 hb d12_goesOut_67 (lv_at hl 5 rfl) ?_
          refine lv_iadd hx9 hb d12_goesOut_69 ?_
          obtain ⟨hi70, e⟩ := ce_gd e
          refine ce_iald C hH lc_69.1 lc_69.2 (ce_in_vp hi70) d12_goesOut_70 ?_
          refine lv_iadd hx9 hb d12_goesOut_71 ?_
          refine lv_iload hx9 hb d12_goesOut_72 (lv_at hl 4 rfl) ?_
          refine lv_if_le (tgt := 86) hx9 hb d12_goesOut_74 (by decide) (fun hc74 => ?_) (fun hc74 => ?_)
          · have e := ce_if1 e hc74
            refine lv_iconst (v := (0 : Int32)) hx9 hb d12_goesOut_86 (by decide) ?_
            refine lv_iadd hx9 hb d12_goesOut_87 ?_
            refine lv_iload hx9 hb d12_goesOut_88 (lv_at hl 4 rfl) ?_
            refine lv_iconst (v := (1 : Int32)) hx9 hb d12_goesOut_90 (by decide) ?_
            refine lv_iadd hx9 hb d12_goesOut_91 ?_
            obtain ⟨o92, eo92, e⟩ := ce_bd e
            refine ce_callV (As := [.int (o53.1 / (4 : Int32)), .int x5, .int ((x3 + (o53.2 69 (((85 : Int32) + x5)).toNatClampNeg)) + (0 : Int32)), .int (x4 + (1 : Int32))]) (rest := []) C (ce_sok aK aV B0) hH (hrc (o53.1 / (4 : Int32)) x5 ((x3 + (o53.2 69 (((85 : Int32) + x5)).toNatClampNeg)) + (0 : Int32)) (x4 + (1 : Int32))  o53.2 o92 eo92) lo_68.1 lo_68.2.choose_spec rfl rfl mc12_goesOut ml_12_294 mi12_goesOut ms12_goesOut mI_12 (n := 4) (by decide) rfl ⟨show 0 + d + 1 ≤ 0 + (d + 1) by omega, show 8 + (6 + 11) + (21 + d * 25) ≤ 21 + (d + 1) * 25 by omega⟩ ⟨Nat.le_of_ble_eq_true rfl, Nat.le_of_ble_eq_true rfl⟩ hl.1 rfl (Nat.le_of_ble_eq_true rfl) d12_goesOut_92 (fun H locs hH => ?_)
            refine W.eq (g2 := F0 m 95 ls []) rfl ?_
            refine lv_iinc (v := x5 + (1 : Int32)) (lv' := [(5, .int (x5 + (1 : Int32))), (0, .ref (ad 68)), (1, .int x1), (2, .int x2), (3, .int x3), (4, .int x4)]) hx9 hb d12_goesOut_95 hl (k := 5) rfl rfl (by decide) rfl (fun ls hl => ?_)
            refine lv_goto (tgt := 20) hx9 hb d12_goesOut_98 (by decide) ?_
            exact ih (x5 + (1 : Int32)) o92 _ _ _ hH (lv_sub hl [1, 2, 3, 4, 5, 0] rfl) e
          · have e := ce_if0 e hc74
            refine lv_aload_n hx9 hb d12_goesOut_77 rfl (lv_at hl 0 rfl) ?_
            refine gf_12_7 C hH d12_goesOut_78 ?_
            refine lv_iconst (v := (1 : Int32)) hx9 hb d12_goesOut_81 (by decide) ?_
            refine ce_iald C hH lc_69.1 lc_69.2 (ce_in_vp (by decide)) d12_goesOut_82 ?_
            refine lv_goto (tgt := 87) hx9 hb d12_goesOut_83 (by decide) ?_
            refine lv_iadd hx9 hb d12_goesOut_87 ?_
            refine lv_iload hx9 hb d12_goesOut_88 (lv_at hl 4 rfl) ?_
            refine lv_iconst (v := (1 : Int32)) hx9 hb d12_goesOut_90 (by decide) ?_
            refine lv_iadd hx9 hb d12_goesOut_91 ?_
            obtain ⟨o92, eo92, e⟩ := ce_bd e
            refine ce_callV (As := [.int (o53.1 / (4 : Int32)), .int x5, .int ((x3 + (o53.2 69 (((85 : Int32) + x5)).toNatClampNeg)) + (o53.2 69 ((1 : Int32)).toNatClampNeg)), .int (x4 + (1 : Int32))]) (rest := []) C (ce_sok aK aV B0) hH (hrc (o53.1 / (4 : Int32)) x5 ((x3 + (o53.2 69 (((85 : Int32) + x5)).toNatClampNeg)) + (o53.2 69 ((1 : Int32)).toNatClampNeg)) (x4 + (1 : Int32))  o53.2 o92 eo92) lo_68.1 lo_68.2.choose_spec rfl rfl mc12_goesOut ml_12_294 mi12_goesOut ms12_goesOut mI_12 (n := 4) (by decide) rfl ⟨show 0 + d + 1 ≤ 0 + (d + 1) by omega, show 8 + (6 + 11) + (21 + d * 25) ≤ 21 + (d + 1) * 25 by omega⟩ ⟨Nat.le_of_ble_eq_true rfl, Nat.le_of_ble_eq_true rfl⟩ hl.1 rfl (Nat.le_of_ble_eq_true rfl) d12_goesOut_92 (fun H locs hH => ?_)
            refine W.eq (g2 := F0 m 95 ls []) rfl ?_
            refine lv_iinc (v := x5 + (1 : Int32)) (lv' := [(5, .int (x5 + (1 : Int32))), (0, .ref (ad 68)), (1, .int x1), (2, .int x2), (3, .int x3), (4, .int x4)]) hx9 hb d12_goesOut_95 hl (k := 5) rfl rfl (by decide) rfl (fun ls hl => ?_)
            refine lv_goto (tgt := 20) hx9 hb d12_goesOut_98 (by decide) ?_
            exact ih (x5 + (1 : Int32)) o92 _ _ _ hH (lv_sub hl [1, 2, 3, 4, 5, 0] rfl) e
def f12_goesOut (F : Nat) : Nat → Int32 → Int32 → Int32 → Int32 → Hp → Option (Hp)
  | 0, _, _, _, _, _ => none
  | d + 1, x1, x2, x3, x4, h =>
    if ce_in x1 10 = true then
      ce_nm (hp_up h 84 (x1).toNatClampNeg x3) (fun h_6 =>
        if ce_in x1 10 = true then
          ce_nm (hp_up h_6 85 (x1).toNatClampNeg x4) (fun h_14 =>
            Option.bind (ce_it (fun (st : Int32 × Hp) => f12_goesOut_b20 F (f12_goesOut F d) x1 x2 x3 x4 st.1 st.2) F ((4 : Int32) * x1, h_14)) (fun o20 =>
              some o20))
        else none)
    else none
set_option maxRecDepth 20000 in
theorem c12_goesOut (l : Launch) (D : va_G) (ad : Nat → Nat) (cA : Nat → ClassId) (aK aV : Nat → Nat) (B0 : Nat) (hA : ce_Ad ad B0) (F : Nat) : ∀ (d : Nat) (x1 : Int32) (x2 : Int32) (x3 : Int32) (x4 : Int32)  (h : Hp) (r : Hp), f12_goesOut F d x1 x2 x3 x4 h = some r → ce_Ct l D ad cA B0 (ce_St aK aV B0) y12_goesOut b12_goesOut 6 none (0 + d) (21 + d * 25) 0 0 [.ref (ad 68), .int x1, .int x2, .int x3, .int x4] h none r := by
  intro d
  induction d with
  | zero =>
    intro x1 x2 x3 x4  h r e
    exact absurd e (fun z => by cases z)
  | succ d ihd =>
    intro x1 x2 x3 x4  h r e
    refine ce_enter hA (by decide) rfl (Nat.le_of_ble_eq_true rfl) (fun p e0 s m below meth c ls C hH hl => ?_)
    have hl : lv_has ls 6 [(0, .ref (ad 68)), (1, .int x1), (2, .int x2), (3, .int x3), (4, .int x4)] := hl
    have hx := C.1
    have hb := C.2.1
    obtain ⟨rc, erc⟩ : ∃ z, z = f12_goesOut F d := ⟨_, rfl⟩
    rw [← erc] at ihd
    have hrc := ihd
    have e : Option.bind _ some = some r := (congrArg (fun z => Option.bind z some) e).trans rfl
    unfold f12_goesOut at e
    rw [← erc] at e
    refine lv_aload_n hx hb d12_goesOut_0 rfl (lv_at hl 0 rfl) ?_
    refine gf_12_59 C hH d12_goesOut_1 ?_
    refine lv_iload_n hx hb d12_goesOut_4 rfl (lv_at hl 1 rfl) ?_
    refine lv_iload_n hx hb d12_goesOut_5 rfl (lv_at hl 3 rfl) ?_
    obtain ⟨hi6, e⟩ := ce_gd e
    refine ce_iast C hH lc_84.1 lc_84.2 (ce_in_vp hi6) d12_goesOut_6 (fun H locs hH => ?_)
    obtain ⟨h_6, eh_6, e⟩ := ce_nmE e
    rw [← eh_6] at hH
    refine lv_aload_n hx hb d12_goesOut_7 rfl (lv_at hl 0 rfl) ?_
    refine gf_12_62 C hH d12_goesOut_8 ?_
    refine lv_iload_n hx hb d12_goesOut_11 rfl (lv_at hl 1 rfl) ?_
    refine lv_iload hx hb d12_goesOut_12 (lv_at hl 4 rfl) ?_
    obtain ⟨hi14, e⟩ := ce_gd e
    refine ce_iast C hH lc_85.1 lc_85.2 (ce_in_vp hi14) d12_goesOut_14 (fun H locs hH => ?_)
    obtain ⟨h_14, eh_14, e⟩ := ce_nmE e
    rw [← eh_14] at hH
    refine lv_iconst (v := (4 : Int32)) hx hb d12_goesOut_15 (by decide) ?_
    refine lv_iload_n hx hb d12_goesOut_16 rfl (lv_at hl 1 rfl) ?_
    refine lv_imul hx hb d12_goesOut_17 ?_
    refine lv_istore (lv' := [(5, .int ((4 : Int32) * x1)), (0, .ref (ad 68)), (1, .int x1), (2, .int x2), (3, .int x3), (4, .int x4)]) hx hb d12_goesOut_18 hl (by decide) rfl (fun ls hl => ?_)
    refine l12_goesOut_20 C d rc hrc F x1 x2 x3 x4  r _ (fun  h_20 H locs ls hH hl e => ?_) F ((4 : Int32) * x1) h_14 _ _ _ hH (lv_sub hl [1, 2, 3, 4, 5, 0] rfl) (ce_as e)
    try dsimp only at e
    exact ce_vret C (ce_sok aK aV B0) hH (Option.some.inj e) d12_goesOut_101
abbrev b12_laysWays : ByteArray := prog_14_method_63_code
def y12_laysWays : MethodName := ⟨cn_12, "laysWays", "(I)V"⟩
theorem d12_laysWays_0 : decode b12_laysWays 0 = .ok (.iconst 0, 1) := by decide +kernel
theorem d12_laysWays_1 : decode b12_laysWays 1 = .ok (.istore_n 2, 1) := by decide +kernel
theorem d12_laysWays_2 : decode b12_laysWays 2 = .ok (.iload_n 2, 1) := by decide +kernel
theorem d12_laysWays_3 : decode b12_laysWays 3 = .ok (.bipush 10, 2) := by decide +kernel
theorem d12_laysWays_5 : decode b12_laysWays 5 = .ok (.if_icmp .ge 23, 3) := by decide +kernel
theorem d12_laysWays_8 : decode b12_laysWays 8 = .ok (.aload_n 0, 1) := by decide +kernel
theorem d12_laysWays_9 : decode b12_laysWays 9 = .ok (.getfield 59, 3) := by decide +kernel
theorem d12_laysWays_12 : decode b12_laysWays 12 = .ok (.iload_n 2, 1) := by decide +kernel
theorem d12_laysWays_13 : decode b12_laysWays 13 = .ok (.iconst (-1), 1) := by decide +kernel
theorem d12_laysWays_14 : decode b12_laysWays 14 = .ok (.iastore, 1) := by decide +kernel
theorem d12_laysWays_15 : decode b12_laysWays 15 = .ok (.aload_n 0, 1) := by decide +kernel
theorem d12_laysWays_16 : decode b12_laysWays 16 = .ok (.getfield 62, 3) := by decide +kernel
theorem d12_laysWays_19 : decode b12_laysWays 19 = .ok (.iload_n 2, 1) := by decide +kernel
theorem d12_laysWays_20 : decode b12_laysWays 20 = .ok (.iconst (-1), 1) := by decide +kernel
theorem d12_laysWays_21 : decode b12_laysWays 21 = .ok (.iastore, 1) := by decide +kernel
theorem d12_laysWays_22 : decode b12_laysWays 22 = .ok (.iinc 2 1, 3) := by decide +kernel
theorem d12_laysWays_25 : decode b12_laysWays 25 = .ok (.goto (-23), 3) := by decide +kernel
theorem d12_laysWays_28 : decode b12_laysWays 28 = .ok (.aload_n 0, 1) := by decide +kernel
theorem d12_laysWays_29 : decode b12_laysWays 29 = .ok (.iload_n 1, 1) := by decide +kernel
theorem d12_laysWays_30 : decode b12_laysWays 30 = .ok (.iconst (-1), 1) := by decide +kernel
theorem d12_laysWays_31 : decode b12_laysWays 31 = .ok (.iconst 0, 1) := by decide +kernel
theorem d12_laysWays_32 : decode b12_laysWays 32 = .ok (.iconst 0, 1) := by decide +kernel
theorem d12_laysWays_33 : decode b12_laysWays 33 = .ok (.invokevirtual 294, 3) := by decide +kernel
theorem d12_laysWays_36 : decode b12_laysWays 36 = .ok (.return_, 1) := by decide +kernel
def f12_laysWays_b2 (F : Nat) (x1 : Int32) (x2 : Int32) (h : Hp) : Option ((Int32 × Hp) ⊕ (Hp)) :=
  if (10 : Int32) ≤ x2 then
    some (.inr h)
  else
    if ce_in x2 10 = true then
      ce_nm (hp_up h 84 (x2).toNatClampNeg (-1 : Int32)) (fun h_14 =>
        if ce_in x2 10 = true then
          ce_nm (hp_up h_14 85 (x2).toNatClampNeg (-1 : Int32)) (fun h_21 =>
            some (.inl (x2 + (1 : Int32), h_21)))
        else none)
    else none
set_option maxRecDepth 20000 in
theorem l12_laysWays_2 (C : ce_Cx p s m args c meth b12_laysWays 3 none cn_12 D ad cA B0 (ce_St aK aV B0)) (F : Nat) (x1 : Int32)  (r : Hp) (g : (Hp) → Option (Hp)) (hx : ∀  (h : Hp) (H : Heap) (locs : List Loc) (ls : Array Slot), ce_H D ad cA B0 [] s h H locs → lv_has ls 3 [(0, .ref (ad 68)), (1, .int x1)] → g h = some r → W p l e0 { frames := 13, cells := 0, slots := 0, locals := 346 } s m args below meth c H locs 0 0 (MQ below (ce_Q D ad cA B0 (ce_St aK aV B0) none r) args s 0 0 (fun q => B0 ≤ q)) (F0 m 28 ls [])) : ∀ (n : Nat) (x2 : Int32) (h : Hp) (H : Heap) (locs : List Loc) (ls : Array Slot), ce_H D ad cA B0 [] s h H locs → lv_has ls 3 [(0, .ref (ad 68)), (1, .int x1), (2, .int x2)] → Option.bind (ce_it (fun (st : Int32 × Hp) => f12_laysWays_b2 F x1 st.1 st.2) n (x2, h)) g = some r → W p l e0 { frames := 13, cells := 0, slots := 0, locals := 346 } s m args below meth c H locs 0 0 (MQ below (ce_Q D ad cA B0 (ce_St aK aV B0) none r) args s 0 0 (fun q => B0 ≤ q)) (F0 m 2 ls []) := by
  intro n
  induction n with
  | zero =>
    intro x2 h H locs ls hH hl e
    exact absurd e (fun z => by cases z)
  | succ n ih =>
    intro x2 h H locs ls hH hl e
    have hx9 := C.1
    have hb := C.2.1
    have e : Option.bind (f12_laysWays_b2 F x1 x2 h) _ = some r := ce_it_bd e
    unfold f12_laysWays_b2 at e
    refine lv_iload_n hx9 hb d12_laysWays_2 rfl (lv_at hl 2 rfl) ?_
    refine lv_bipush (v := (10 : Int32)) hx9 hb d12_laysWays_3 (by decide) ?_
    refine lv_icmp_ge (tgt := 28) hx9 hb d12_laysWays_5 (by decide) (fun hc5 => ?_) (fun hc5 => ?_)
    · have e := ce_if1 e hc5
      exact hx  h _ _ _ hH (lv_sub hl [0, 1] rfl) e
    · have e := ce_if0 e hc5
      refine lv_aload_n hx9 hb d12_laysWays_8 rfl (lv_at hl 0 rfl) ?_
      refine gf_12_59 C hH d12_laysWays_9 ?_
      refine lv_iload_n hx9 hb d12_laysWays_12 rfl (lv_at hl 2 rfl) ?_
      refine lv_iconst (v := (-1 : Int32)) hx9 hb d12_laysWays_13 (by decide) ?_
      obtain ⟨hi14, e⟩ := ce_gd e
      refine ce_iast C hH lc_84.1 lc_84.2 (ce_in_vp hi14) d12_laysWays_14 (fun H locs hH => ?_)
      obtain ⟨h_14, eh_14, e⟩ := ce_nmE e
      rw [← eh_14] at hH
      refine lv_aload_n hx9 hb d12_laysWays_15 rfl (lv_at hl 0 rfl) ?_
      refine gf_12_62 C hH d12_laysWays_16 ?_
      refine lv_iload_n hx9 hb d12_laysWays_19 rfl (lv_at hl 2 rfl) ?_
      refine lv_iconst (v := (-1 : Int32)) hx9 hb d12_laysWays_20 (by decide) ?_
      obtain ⟨hi21, e⟩ := ce_gd e
      refine ce_iast C hH lc_85.1 lc_85.2 (ce_in_vp hi21) d12_laysWays_21 (fun H locs hH => ?_)
      obtain ⟨h_21, eh_21, e⟩ := ce_nmE e
      rw [← eh_21] at hH
      refine lv_iinc (v := x2 + (1 : Int32)) (lv' := [(2, .int (x2 + (1 : Int32))), (0, .ref (ad 68)), (1, .int x1)]) hx9 hb d12_laysWays_22 hl (k := 2) rfl rfl (by decide) rfl (fun ls hl => ?_)
      refine lv_goto (tgt := 2) hx9 hb d12_laysWays_25 (by decide) ?_
      exact ih (x2 + (1 : Int32)) h_21 _ _ _ hH (lv_sub hl [1, 2, 0] rfl) e
def f12_laysWays (F : Nat) (x1 : Int32) (h : Hp) : Option (Hp) :=
  Option.bind (ce_it (fun (st : Int32 × Hp) => f12_laysWays_b2 F x1 st.1 st.2) F ((0 : Int32), h)) (fun o2 =>
    Option.bind (f12_goesOut F 12 x1 (-1 : Int32) (0 : Int32) (0 : Int32) o2) (fun o33 =>
      some o33))
set_option maxRecDepth 20000 in
theorem c12_laysWays (l : Launch) (D : va_G) (ad : Nat → Nat) (cA : Nat → ClassId) (aK aV : Nat → Nat) (B0 : Nat) (hA : ce_Ad ad B0) (F : Nat) (x1 : Int32)  (h : Hp) (r : Hp) (e : f12_laysWays F x1 h = some r) : ce_Ct l D ad cA B0 (ce_St aK aV B0) y12_laysWays b12_laysWays 3 none 13 346 0 0 [.ref (ad 68), .int x1] h none r := by
  refine ce_enter hA (by decide) rfl (Nat.le_of_ble_eq_true rfl) (fun p e0 s m below meth c ls C hH hl => ?_)
  have hl : lv_has ls 3 [(0, .ref (ad 68)), (1, .int x1)] := hl
  have hx := C.1
  have hb := C.2.1
  have e : Option.bind _ some = some r := (congrArg (fun z => Option.bind z some) e).trans rfl
  unfold f12_laysWays at e
  refine lv_iconst (v := (0 : Int32)) hx hb d12_laysWays_0 (by decide) ?_
  refine lv_istore_n (lv' := [(2, .int (0 : Int32)), (0, .ref (ad 68)), (1, .int x1)]) hx hb d12_laysWays_1 rfl hl (by decide) rfl (fun ls hl => ?_)
  refine l12_laysWays_2 C F x1  r _ (fun  h_2 H locs ls hH hl e => ?_) F (0 : Int32) h _ _ _ hH (lv_sub hl [1, 2, 0] rfl) (ce_as e)
  try dsimp only at e
  refine lv_aload_n hx hb d12_laysWays_28 rfl (lv_at hl 0 rfl) ?_
  refine lv_iload_n hx hb d12_laysWays_29 rfl (lv_at hl 1 rfl) ?_
  refine lv_iconst (v := (-1 : Int32)) hx hb d12_laysWays_30 (by decide) ?_
  refine lv_iconst (v := (0 : Int32)) hx hb d12_laysWays_31 (by decide) ?_
  refine lv_iconst (v := (0 : Int32)) hx hb d12_laysWays_32 (by decide) ?_
  obtain ⟨o33, eo33, e⟩ := ce_bd e
  refine ce_callV (As := [.int x1, .int (-1 : Int32), .int (0 : Int32), .int (0 : Int32)]) (rest := []) C (ce_sok aK aV B0) hH (c12_goesOut l D ad cA aK aV B0 C.2.2.2.2.2.2.1 F 12 x1 (-1 : Int32) (0 : Int32) (0 : Int32)  h_2 o33 eo33) lo_68.1 lo_68.2.choose_spec rfl rfl mc12_goesOut ml_12_294 mi12_goesOut ms12_goesOut mI_12 (n := 4) (by decide) rfl ⟨Nat.le_of_ble_eq_true rfl, Nat.le_of_ble_eq_true rfl⟩ ⟨Nat.le_of_ble_eq_true rfl, Nat.le_of_ble_eq_true rfl⟩ hl.1 rfl (Nat.le_of_ble_eq_true rfl) d12_laysWays_33 (fun H locs hH => ?_)
  refine W.eq (g2 := F0 m 36 ls []) rfl ?_
  exact ce_vret C (ce_sok aK aV B0) hH (Option.some.inj e) d12_laysWays_36
abbrev b12_whyNotBoth : ByteArray := prog_14_method_64_code
def y12_whyNotBoth : MethodName := ⟨cn_12, "whyNotBoth", "(II)I"⟩
theorem d12_whyNotBoth_0 : decode b12_whyNotBoth 0 = .ok (.aload_n 0, 1) := by decide +kernel
theorem d12_whyNotBoth_1 : decode b12_whyNotBoth 1 = .ok (.iload_n 1, 1) := by decide +kernel
theorem d12_whyNotBoth_2 : decode b12_whyNotBoth 2 = .ok (.invokevirtual 220, 3) := by decide +kernel
theorem d12_whyNotBoth_5 : decode b12_whyNotBoth 5 = .ok (.ifCond .eq 11, 3) := by decide +kernel
theorem d12_whyNotBoth_8 : decode b12_whyNotBoth 8 = .ok (.aload_n 0, 1) := by decide +kernel
theorem d12_whyNotBoth_9 : decode b12_whyNotBoth 9 = .ok (.iload_n 2, 1) := by decide +kernel
theorem d12_whyNotBoth_10 : decode b12_whyNotBoth 10 = .ok (.invokevirtual 220, 3) := by decide +kernel
theorem d12_whyNotBoth_13 : decode b12_whyNotBoth 13 = .ok (.ifCond .ne 6, 3) := by decide +kernel
theorem d12_whyNotBoth_16 : decode b12_whyNotBoth 16 = .ok (.bipush (-2), 2) := by decide +kernel
theorem d12_whyNotBoth_18 : decode b12_whyNotBoth 18 = .ok (.ireturn, 1) := by decide +kernel
theorem d12_whyNotBoth_19 : decode b12_whyNotBoth 19 = .ok (.aload_n 0, 1) := by decide +kernel
theorem d12_whyNotBoth_20 : decode b12_whyNotBoth 20 = .ok (.iload_n 1, 1) := by decide +kernel
theorem d12_whyNotBoth_21 : decode b12_whyNotBoth 21 = .ok (.invokevirtual 233, 3) := by decide +kernel
theorem d12_whyNotBoth_24 : decode b12_whyNotBoth 24 = .ok (.ifCond .eq 5, 3) := by decide +kernel
theorem d12_whyNotBoth_27 : decode b12_whyNotBoth 27 = .ok (.iconst (-1), 1) := by decide +kernel
theorem d12_whyNotBoth_28 : decode b12_whyNotBoth 28 = .ok (.ireturn, 1) := by decide +kernel
theorem d12_whyNotBoth_29 : decode b12_whyNotBoth 29 = .ok (.aload_n 0, 1) := by decide +kernel
theorem d12_whyNotBoth_30 : decode b12_whyNotBoth 30 = .ok (.iload_n 1, 1) := by decide +kernel
theorem d12_whyNotBoth_31 : decode b12_whyNotBoth 31 = .ok (.invokevirtual 298, 3) := by decide +kernel
theorem d12_whyNotBoth_34 : decode b12_whyNotBoth 34 = .ok (.iconst 0, 1) := by decide +kernel
theorem d12_whyNotBoth_35 : decode b12_whyNotBoth 35 = .ok (.ireturn, 1) := by decide +kernel
theorem mc12_laysWays : Cond.code y12_laysWays b12_laysWays 3 none ∈ ce_cm := ce_cm_of (List.mem_of_getElem? (i := 1505) (by decide +kernel)) (by decide +kernel)
theorem ml_12_298 : Cond.methodLink cn_12 298 y12_laysWays ∈ ce_cm := ce_cm_of (List.mem_of_getElem? (i := 1502) (by decide +kernel)) (by decide +kernel)
theorem mi12_laysWays : Cond.instanceMethod y12_laysWays ∈ ce_cm := ce_cm_of (List.mem_of_getElem? (i := 1504) (by decide +kernel)) (by decide +kernel)
theorem ms12_laysWays : Cond.selects cn_12 y12_laysWays y12_laysWays ∈ ce_cm := ce_cm_of (List.mem_of_getElem? (i := 70) (by decide +kernel)) (by decide +kernel)
def f12_whyNotBoth (F : Nat) (x1 : Int32) (x2 : Int32) (h : Hp) : Option (Int32 × Hp) :=
  Option.bind (f12_isNode F x1 h) (fun o2 =>
    if o2.1 = 0 then
      some ((-2 : Int32), o2.2)
    else
      Option.bind (f12_isNode F x2 o2.2) (fun o10 =>
        if o10.1 = 0 then
          some ((-2 : Int32), o10.2)
        else
          Option.bind (f12_isLoop F x1 o10.2) (fun o21 =>
            if o21.1 = 0 then
              Option.bind (f12_laysWays F x1 o21.2) (fun o31 =>
                some ((0 : Int32), o31))
            else
              some ((-1 : Int32), o21.2))))
set_option maxRecDepth 20000 in
theorem c12_whyNotBoth (l : Launch) (D : va_G) (ad : Nat → Nat) (cA : Nat → ClassId) (aK aV : Nat → Nat) (B0 : Nat) (hA : ce_Ad ad B0) (F : Nat) (x1 : Int32) (x2 : Int32)  (h : Hp) (r : Int32 × Hp) (e : f12_whyNotBoth F x1 x2 h = some r) : ce_Ct l D ad cA B0 (ce_St aK aV B0) y12_whyNotBoth b12_whyNotBoth 3 (some .int) 14 368 0 0 [.ref (ad 68), .int x1, .int x2] h (some (.int r.1)) r.2 := by
  refine ce_enter hA (by decide) rfl (Nat.le_of_ble_eq_true rfl) (fun p e0 s m below meth c ls C hH hl => ?_)
  have hl : lv_has ls 3 [(0, .ref (ad 68)), (1, .int x1), (2, .int x2)] := hl
  have hx := C.1
  have hb := C.2.1
  have e : Option.bind _ some = some r := (congrArg (fun z => Option.bind z some) e).trans rfl
  unfold f12_whyNotBoth at e
  refine lv_aload_n hx hb d12_whyNotBoth_0 rfl (lv_at hl 0 rfl) ?_
  refine lv_iload_n hx hb d12_whyNotBoth_1 rfl (lv_at hl 1 rfl) ?_
  obtain ⟨o2, eo2, e⟩ := ce_bd e
  refine ce_callV (As := [.int x1]) (rest := []) C (ce_sok aK aV B0) hH (c12_isNode l D ad cA aK aV B0 C.2.2.2.2.2.2.1 F x1  h o2 eo2) lo_68.1 lo_68.2.choose_spec rfl rfl mc12_isNode ml_12_220 mi12_isNode ms12_isNode mI_12 (n := 1) (by decide) rfl ⟨Nat.le_of_ble_eq_true rfl, Nat.le_of_ble_eq_true rfl⟩ ⟨Nat.le_of_ble_eq_true rfl, Nat.le_of_ble_eq_true rfl⟩ hl.1 rfl (Nat.le_of_ble_eq_true rfl) d12_whyNotBoth_2 (fun H locs hH => ?_)
  refine W.eq (g2 := F0 m 5 ls [.int o2.1]) rfl ?_
  refine lv_if_eq (tgt := 16) hx hb d12_whyNotBoth_5 (by decide) (fun hc5 => ?_) (fun hc5 => ?_)
  · have e := ce_if1 e hc5
    refine lv_bipush (v := (-2 : Int32)) hx hb d12_whyNotBoth_16 (by decide) ?_
    exact ce_iretE C (ce_sok aK aV B0) hH e d12_whyNotBoth_18
  · have e := ce_if0 e hc5
    refine lv_aload_n hx hb d12_whyNotBoth_8 rfl (lv_at hl 0 rfl) ?_
    refine lv_iload_n hx hb d12_whyNotBoth_9 rfl (lv_at hl 2 rfl) ?_
    obtain ⟨o10, eo10, e⟩ := ce_bd e
    refine ce_callV (As := [.int x2]) (rest := []) C (ce_sok aK aV B0) hH (c12_isNode l D ad cA aK aV B0 C.2.2.2.2.2.2.1 F x2  o2.2 o10 eo10) lo_68.1 lo_68.2.choose_spec rfl rfl mc12_isNode ml_12_220 mi12_isNode ms12_isNode mI_12 (n := 1) (by decide) rfl ⟨Nat.le_of_ble_eq_true rfl, Nat.le_of_ble_eq_true rfl⟩ ⟨Nat.le_of_ble_eq_true rfl, Nat.le_of_ble_eq_true rfl⟩ hl.1 rfl (Nat.le_of_ble_eq_true rfl) d12_whyNotBoth_10 (fun H locs hH => ?_)
    refine W.eq (g2 := F0 m 13 ls [.int o10.1]) rfl ?_
    refine lv_if_ne (tgt := 19) hx hb d12_whyNotBoth_13 (by decide) (fun hc13 => ?_) (fun hc13 => ?_)
    · have e := ce_if0 e hc13
      refine lv_aload_n hx hb d12_whyNotBoth_19 rfl (lv_at hl 0 rfl) ?_
      refine lv_iload_n hx hb d12_whyNotBoth_20 rfl (lv_at hl 1 rfl) ?_
      obtain ⟨o21, eo21, e⟩ := ce_bd e
      refine ce_callV (As := [.int x1]) (rest := []) C (ce_sok aK aV B0) hH (c12_isLoop l D ad cA aK aV B0 C.2.2.2.2.2.2.1 F x1  o10.2 o21 eo21) lo_68.1 lo_68.2.choose_spec rfl rfl mc12_isLoop ml_12_233 mi12_isLoop ms12_isLoop mI_12 (n := 1) (by decide) rfl ⟨Nat.le_of_ble_eq_true rfl, Nat.le_of_ble_eq_true rfl⟩ ⟨Nat.le_of_ble_eq_true rfl, Nat.le_of_ble_eq_true rfl⟩ hl.1 rfl (Nat.le_of_ble_eq_true rfl) d12_whyNotBoth_21 (fun H locs hH => ?_)
      refine W.eq (g2 := F0 m 24 ls [.int o21.1]) rfl ?_
      refine lv_if_eq (tgt := 29) hx hb d12_whyNotBoth_24 (by decide) (fun hc24 => ?_) (fun hc24 => ?_)
      · have e := ce_if1 e hc24
        refine lv_aload_n hx hb d12_whyNotBoth_29 rfl (lv_at hl 0 rfl) ?_
        refine lv_iload_n hx hb d12_whyNotBoth_30 rfl (lv_at hl 1 rfl) ?_
        obtain ⟨o31, eo31, e⟩ := ce_bd e
        refine ce_callV (As := [.int x1]) (rest := []) C (ce_sok aK aV B0) hH (c12_laysWays l D ad cA aK aV B0 C.2.2.2.2.2.2.1 F x1  o21.2 o31 eo31) lo_68.1 lo_68.2.choose_spec rfl rfl mc12_laysWays ml_12_298 mi12_laysWays ms12_laysWays mI_12 (n := 1) (by decide) rfl ⟨Nat.le_of_ble_eq_true rfl, Nat.le_of_ble_eq_true rfl⟩ ⟨Nat.le_of_ble_eq_true rfl, Nat.le_of_ble_eq_true rfl⟩ hl.1 rfl (Nat.le_of_ble_eq_true rfl) d12_whyNotBoth_31 (fun H locs hH => ?_)
        refine W.eq (g2 := F0 m 34 ls []) rfl ?_
        refine lv_iconst (v := (0 : Int32)) hx hb d12_whyNotBoth_34 (by decide) ?_
        exact ce_iretE C (ce_sok aK aV B0) hH e d12_whyNotBoth_35
      · have e := ce_if0 e hc24
        refine lv_iconst (v := (-1 : Int32)) hx hb d12_whyNotBoth_27 (by decide) ?_
        exact ce_iretE C (ce_sok aK aV B0) hH e d12_whyNotBoth_28
    · have e := ce_if1 e hc13
      refine lv_bipush (v := (-2 : Int32)) hx hb d12_whyNotBoth_16 (by decide) ?_
      exact ce_iretE C (ce_sok aK aV B0) hH e d12_whyNotBoth_18
abbrev b12_way : ByteArray := prog_14_method_65_code
def y12_way : MethodName := ⟨cn_12, "way", "(II)I"⟩
theorem d12_way_0 : decode b12_way 0 = .ok (.aload_n 0, 1) := by decide +kernel
theorem d12_way_1 : decode b12_way 1 = .ok (.iload_n 1, 1) := by decide +kernel
theorem d12_way_2 : decode b12_way 2 = .ok (.iload_n 2, 1) := by decide +kernel
theorem d12_way_3 : decode b12_way 3 = .ok (.invokevirtual 301, 3) := by decide +kernel
theorem d12_way_6 : decode b12_way 6 = .ok (.istore_n 3, 1) := by decide +kernel
theorem d12_way_7 : decode b12_way 7 = .ok (.iload_n 3, 1) := by decide +kernel
theorem d12_way_8 : decode b12_way 8 = .ok (.ifCond .ge 7, 3) := by decide +kernel
theorem d12_way_11 : decode b12_way 11 = .ok (.iload_n 3, 1) := by decide +kernel
theorem d12_way_12 : decode b12_way 12 = .ok (.goto 9, 3) := by decide +kernel
theorem d12_way_15 : decode b12_way 15 = .ok (.aload_n 0, 1) := by decide +kernel
theorem d12_way_16 : decode b12_way 16 = .ok (.getfield 59, 3) := by decide +kernel
theorem d12_way_19 : decode b12_way 19 = .ok (.iload_n 2, 1) := by decide +kernel
theorem d12_way_20 : decode b12_way 20 = .ok (.iaload, 1) := by decide +kernel
theorem d12_way_21 : decode b12_way 21 = .ok (.ireturn, 1) := by decide +kernel
theorem mc12_whyNotBoth : Cond.code y12_whyNotBoth b12_whyNotBoth 3 (some .int) ∈ ce_cm := ce_cm_of (List.mem_of_getElem? (i := 1501) (by decide +kernel)) (by decide +kernel)
theorem ml_12_301 : Cond.methodLink cn_12 301 y12_whyNotBoth ∈ ce_cm := ce_cm_of (List.mem_of_getElem? (i := 1498) (by decide +kernel)) (by decide +kernel)
theorem mi12_whyNotBoth : Cond.instanceMethod y12_whyNotBoth ∈ ce_cm := ce_cm_of (List.mem_of_getElem? (i := 1500) (by decide +kernel)) (by decide +kernel)
theorem ms12_whyNotBoth : Cond.selects cn_12 y12_whyNotBoth y12_whyNotBoth ∈ ce_cm := ce_cm_of (List.mem_of_getElem? (i := 69) (by decide +kernel)) (by decide +kernel)
def f12_way (F : Nat) (x1 : Int32) (x2 : Int32) (h : Hp) : Option (Int32 × Hp) :=
  Option.bind (f12_whyNotBoth F x1 x2 h) (fun o3 =>
    if 0 ≤ o3.1 then
      if ce_in x2 10 = true then
        some (o3.2 84 (x2).toNatClampNeg, o3.2)
      else none
    else
      some (o3.1, o3.2))
set_option maxRecDepth 20000 in
theorem c12_way (l : Launch) (D : va_G) (ad : Nat → Nat) (cA : Nat → ClassId) (aK aV : Nat → Nat) (B0 : Nat) (hA : ce_Ad ad B0) (F : Nat) (x1 : Int32) (x2 : Int32)  (h : Hp) (r : Int32 × Hp) (e : f12_way F x1 x2 h = some r) : ce_Ct l D ad cA B0 (ce_St aK aV B0) y12_way b12_way 4 (some .int) 15 390 0 0 [.ref (ad 68), .int x1, .int x2] h (some (.int r.1)) r.2 := by
  refine ce_enter hA (by decide) rfl (Nat.le_of_ble_eq_true rfl) (fun p e0 s m below meth c ls C hH hl => ?_)
  have hl : lv_has ls 4 [(0, .ref (ad 68)), (1, .int x1), (2, .int x2)] := hl
  have hx := C.1
  have hb := C.2.1
  have e : Option.bind _ some = some r := (congrArg (fun z => Option.bind z some) e).trans rfl
  unfold f12_way at e
  refine lv_aload_n hx hb d12_way_0 rfl (lv_at hl 0 rfl) ?_
  refine lv_iload_n hx hb d12_way_1 rfl (lv_at hl 1 rfl) ?_
  refine lv_iload_n hx hb d12_way_2 rfl (lv_at hl 2 rfl) ?_
  obtain ⟨o3, eo3, e⟩ := ce_bd e
  refine ce_callV (As := [.int x1, .int x2]) (rest := []) C (ce_sok aK aV B0) hH (c12_whyNotBoth l D ad cA aK aV B0 C.2.2.2.2.2.2.1 F x1 x2  h o3 eo3) lo_68.1 lo_68.2.choose_spec rfl rfl mc12_whyNotBoth ml_12_301 mi12_whyNotBoth ms12_whyNotBoth mI_12 (n := 2) (by decide) rfl ⟨Nat.le_of_ble_eq_true rfl, Nat.le_of_ble_eq_true rfl⟩ ⟨Nat.le_of_ble_eq_true rfl, Nat.le_of_ble_eq_true rfl⟩ hl.1 rfl (Nat.le_of_ble_eq_true rfl) d12_way_3 (fun H locs hH => ?_)
  refine W.eq (g2 := F0 m 6 ls [.int o3.1]) rfl ?_
  refine lv_istore_n (lv' := [(3, .int o3.1), (0, .ref (ad 68)), (1, .int x1), (2, .int x2)]) hx hb d12_way_6 rfl hl (by decide) rfl (fun ls hl => ?_)
  refine lv_iload_n hx hb d12_way_7 rfl (lv_at hl 0 rfl) ?_
  refine lv_if_ge (tgt := 15) hx hb d12_way_8 (by decide) (fun hc8 => ?_) (fun hc8 => ?_)
  · have e := ce_if1 e hc8
    refine lv_aload_n hx hb d12_way_15 rfl (lv_at hl 1 rfl) ?_
    refine gf_12_59 C hH d12_way_16 ?_
    refine lv_iload_n hx hb d12_way_19 rfl (lv_at hl 3 rfl) ?_
    obtain ⟨hi20, e⟩ := ce_gd e
    refine ce_iald C hH lc_84.1 lc_84.2 (ce_in_vp hi20) d12_way_20 ?_
    exact ce_iretE C (ce_sok aK aV B0) hH e d12_way_21
  · have e := ce_if0 e hc8
    refine lv_iload_n hx hb d12_way_11 rfl (lv_at hl 0 rfl) ?_
    refine lv_goto (tgt := 21) hx hb d12_way_12 (by decide) ?_
    exact ce_iretE C (ce_sok aK aV B0) hH e d12_way_21
abbrev b12_hops : ByteArray := prog_14_method_66_code
def y12_hops : MethodName := ⟨cn_12, "hops", "(II)I"⟩
theorem d12_hops_0 : decode b12_hops 0 = .ok (.aload_n 0, 1) := by decide +kernel
theorem d12_hops_1 : decode b12_hops 1 = .ok (.iload_n 1, 1) := by decide +kernel
theorem d12_hops_2 : decode b12_hops 2 = .ok (.iload_n 2, 1) := by decide +kernel
theorem d12_hops_3 : decode b12_hops 3 = .ok (.invokevirtual 301, 3) := by decide +kernel
theorem d12_hops_6 : decode b12_hops 6 = .ok (.istore_n 3, 1) := by decide +kernel
theorem d12_hops_7 : decode b12_hops 7 = .ok (.iload_n 3, 1) := by decide +kernel
theorem d12_hops_8 : decode b12_hops 8 = .ok (.ifCond .ge 7, 3) := by decide +kernel
theorem d12_hops_11 : decode b12_hops 11 = .ok (.iload_n 3, 1) := by decide +kernel
theorem d12_hops_12 : decode b12_hops 12 = .ok (.goto 9, 3) := by decide +kernel
theorem d12_hops_15 : decode b12_hops 15 = .ok (.aload_n 0, 1) := by decide +kernel
theorem d12_hops_16 : decode b12_hops 16 = .ok (.getfield 62, 3) := by decide +kernel
theorem d12_hops_19 : decode b12_hops 19 = .ok (.iload_n 2, 1) := by decide +kernel
theorem d12_hops_20 : decode b12_hops 20 = .ok (.iaload, 1) := by decide +kernel
theorem d12_hops_21 : decode b12_hops 21 = .ok (.ireturn, 1) := by decide +kernel
def f12_hops (F : Nat) (x1 : Int32) (x2 : Int32) (h : Hp) : Option (Int32 × Hp) :=
  Option.bind (f12_whyNotBoth F x1 x2 h) (fun o3 =>
    if 0 ≤ o3.1 then
      if ce_in x2 10 = true then
        some (o3.2 85 (x2).toNatClampNeg, o3.2)
      else none
    else
      some (o3.1, o3.2))
set_option maxRecDepth 20000 in
theorem c12_hops (l : Launch) (D : va_G) (ad : Nat → Nat) (cA : Nat → ClassId) (aK aV : Nat → Nat) (B0 : Nat) (hA : ce_Ad ad B0) (F : Nat) (x1 : Int32) (x2 : Int32)  (h : Hp) (r : Int32 × Hp) (e : f12_hops F x1 x2 h = some r) : ce_Ct l D ad cA B0 (ce_St aK aV B0) y12_hops b12_hops 4 (some .int) 15 390 0 0 [.ref (ad 68), .int x1, .int x2] h (some (.int r.1)) r.2 := by
  refine ce_enter hA (by decide) rfl (Nat.le_of_ble_eq_true rfl) (fun p e0 s m below meth c ls C hH hl => ?_)
  have hl : lv_has ls 4 [(0, .ref (ad 68)), (1, .int x1), (2, .int x2)] := hl
  have hx := C.1
  have hb := C.2.1
  have e : Option.bind _ some = some r := (congrArg (fun z => Option.bind z some) e).trans rfl
  unfold f12_hops at e
  refine lv_aload_n hx hb d12_hops_0 rfl (lv_at hl 0 rfl) ?_
  refine lv_iload_n hx hb d12_hops_1 rfl (lv_at hl 1 rfl) ?_
  refine lv_iload_n hx hb d12_hops_2 rfl (lv_at hl 2 rfl) ?_
  obtain ⟨o3, eo3, e⟩ := ce_bd e
  refine ce_callV (As := [.int x1, .int x2]) (rest := []) C (ce_sok aK aV B0) hH (c12_whyNotBoth l D ad cA aK aV B0 C.2.2.2.2.2.2.1 F x1 x2  h o3 eo3) lo_68.1 lo_68.2.choose_spec rfl rfl mc12_whyNotBoth ml_12_301 mi12_whyNotBoth ms12_whyNotBoth mI_12 (n := 2) (by decide) rfl ⟨Nat.le_of_ble_eq_true rfl, Nat.le_of_ble_eq_true rfl⟩ ⟨Nat.le_of_ble_eq_true rfl, Nat.le_of_ble_eq_true rfl⟩ hl.1 rfl (Nat.le_of_ble_eq_true rfl) d12_hops_3 (fun H locs hH => ?_)
  refine W.eq (g2 := F0 m 6 ls [.int o3.1]) rfl ?_
  refine lv_istore_n (lv' := [(3, .int o3.1), (0, .ref (ad 68)), (1, .int x1), (2, .int x2)]) hx hb d12_hops_6 rfl hl (by decide) rfl (fun ls hl => ?_)
  refine lv_iload_n hx hb d12_hops_7 rfl (lv_at hl 0 rfl) ?_
  refine lv_if_ge (tgt := 15) hx hb d12_hops_8 (by decide) (fun hc8 => ?_) (fun hc8 => ?_)
  · have e := ce_if1 e hc8
    refine lv_aload_n hx hb d12_hops_15 rfl (lv_at hl 1 rfl) ?_
    refine gf_12_62 C hH d12_hops_16 ?_
    refine lv_iload_n hx hb d12_hops_19 rfl (lv_at hl 3 rfl) ?_
    obtain ⟨hi20, e⟩ := ce_gd e
    refine ce_iald C hH lc_85.1 lc_85.2 (ce_in_vp hi20) d12_hops_20 ?_
    exact ce_iretE C (ce_sok aK aV B0) hH e d12_hops_21
  · have e := ce_if0 e hc8
    refine lv_iload_n hx hb d12_hops_11 rfl (lv_at hl 0 rfl) ?_
    refine lv_goto (tgt := 21) hx hb d12_hops_12 (by decide) ?_
    exact ce_iretE C (ce_sok aK aV B0) hH e d12_hops_21
abbrev b12_farthest : ByteArray := prog_14_method_67_code
def y12_farthest : MethodName := ⟨cn_12, "farthest", "(I)I"⟩
theorem d12_farthest_0 : decode b12_farthest 0 = .ok (.aload_n 0, 1) := by decide +kernel
theorem d12_farthest_1 : decode b12_farthest 1 = .ok (.iload_n 1, 1) := by decide +kernel
theorem d12_farthest_2 : decode b12_farthest 2 = .ok (.invokevirtual 298, 3) := by decide +kernel
theorem d12_farthest_5 : decode b12_farthest 5 = .ok (.iconst 0, 1) := by decide +kernel
theorem d12_farthest_6 : decode b12_farthest 6 = .ok (.istore_n 2, 1) := by decide +kernel
theorem d12_farthest_7 : decode b12_farthest 7 = .ok (.iconst 0, 1) := by decide +kernel
theorem d12_farthest_8 : decode b12_farthest 8 = .ok (.istore_n 3, 1) := by decide +kernel
theorem d12_farthest_9 : decode b12_farthest 9 = .ok (.iload_n 3, 1) := by decide +kernel
theorem d12_farthest_10 : decode b12_farthest 10 = .ok (.aload_n 0, 1) := by decide +kernel
theorem d12_farthest_11 : decode b12_farthest 11 = .ok (.getfield 7, 3) := by decide +kernel
theorem d12_farthest_14 : decode b12_farthest 14 = .ok (.iconst 2, 1) := by decide +kernel
theorem d12_farthest_15 : decode b12_farthest 15 = .ok (.iaload, 1) := by decide +kernel
theorem d12_farthest_16 : decode b12_farthest 16 = .ok (.if_icmp .ge 20, 3) := by decide +kernel
theorem d12_farthest_19 : decode b12_farthest 19 = .ok (.iload_n 2, 1) := by decide +kernel
theorem d12_farthest_20 : decode b12_farthest 20 = .ok (.aload_n 0, 1) := by decide +kernel
theorem d12_farthest_21 : decode b12_farthest 21 = .ok (.getfield 59, 3) := by decide +kernel
theorem d12_farthest_24 : decode b12_farthest 24 = .ok (.iload_n 3, 1) := by decide +kernel
theorem d12_farthest_25 : decode b12_farthest 25 = .ok (.iaload, 1) := by decide +kernel
theorem d12_farthest_26 : decode b12_farthest 26 = .ok (.invokestatic 189, 3) := by decide +kernel
theorem d12_farthest_29 : decode b12_farthest 29 = .ok (.istore_n 2, 1) := by decide +kernel
theorem d12_farthest_30 : decode b12_farthest 30 = .ok (.iinc 3 1, 3) := by decide +kernel
theorem d12_farthest_33 : decode b12_farthest 33 = .ok (.goto (-24), 3) := by decide +kernel
theorem d12_farthest_36 : decode b12_farthest 36 = .ok (.iload_n 2, 1) := by decide +kernel
theorem d12_farthest_37 : decode b12_farthest 37 = .ok (.ireturn, 1) := by decide +kernel
def f12_farthest_b9 (F : Nat) (x2 : Int32) (x3 : Int32) (h : Hp) : Option ((Int32 × Int32 × Hp) ⊕ (Int32 × Hp)) :=
  if (h 69 ((2 : Int32)).toNatClampNeg) ≤ x3 then
    some (.inr (x2, h))
  else
    if ce_in x3 10 = true then
      some (.inl ((if x2 < (h 84 (x3).toNatClampNeg) then (h 84 (x3).toNatClampNeg) else x2), x3 + (1 : Int32), h))
    else none
set_option maxRecDepth 20000 in
theorem l12_farthest_9 (C : ce_Cx p s m args c meth b12_farthest 4 (some .int) cn_12 D ad cA B0 (ce_St aK aV B0)) (F : Nat)   (r : Int32 × Hp) (g : (Int32 × Hp) → Option (Int32 × Hp)) (hx : ∀ (x2 : Int32) (h : Hp) (H : Heap) (locs : List Loc) (ls : Array Slot), ce_H D ad cA B0 [] s h H locs → lv_has ls 4 [(2, .int x2)] → g (x2, h) = some r → W p l e0 { frames := 14, cells := 0, slots := 0, locals := 368 } s m args below meth c H locs 0 0 (MQ below (ce_Q D ad cA B0 (ce_St aK aV B0) (some (.int r.1)) r.2) args s 0 0 (fun q => B0 ≤ q)) (F0 m 36 ls [])) : ∀ (n : Nat) (x2 : Int32) (x3 : Int32) (h : Hp) (H : Heap) (locs : List Loc) (ls : Array Slot), ce_H D ad cA B0 [] s h H locs → lv_has ls 4 [(0, .ref (ad 68)), (2, .int x2), (3, .int x3)] → Option.bind (ce_it (fun (st : Int32 × Int32 × Hp) => f12_farthest_b9 F  st.1 st.2.1 st.2.2) n (x2, x3, h)) g = some r → W p l e0 { frames := 14, cells := 0, slots := 0, locals := 368 } s m args below meth c H locs 0 0 (MQ below (ce_Q D ad cA B0 (ce_St aK aV B0) (some (.int r.1)) r.2) args s 0 0 (fun q => B0 ≤ q)) (F0 m 9 ls []) := by
  intro n
  induction n with
  | zero =>
    intro x2 x3 h H locs ls hH hl e
    exact absurd e (fun z => by cases z)
  | succ n ih =>
    intro x2 x3 h H locs ls hH hl e
    have hx9 := C.1
    have hb := C.2.1
    have e : Option.bind (f12_farthest_b9 F  x2 x3 h) _ = some r := ce_it_bd e
    unfold f12_farthest_b9 at e
    refine lv_iload_n hx9 hb d12_farthest_9 rfl (lv_at hl 2 rfl) ?_
    refine lv_aload_n hx9 hb d12_farthest_10 rfl (lv_at hl 0 rfl) ?_
    refine gf_12_7 C hH d12_farthest_11 ?_
    refine lv_iconst (v := (2 : Int32)) hx9 hb d12_farthest_14 (by decide) ?_
    refine ce_iald C hH lc_69.1 lc_69.2 (ce_in_vp (by decide)) d12_farthest_15 ?_
    refine lv_icmp_ge (tgt := 36) hx9 hb d12_farthest_16 (by decide) (fun hc16 => ?_) (fun hc16 => ?_)
    · have e := ce_if1 e hc16
      exact hx x2 h _ _ _ hH (lv_sub hl [1] rfl) e
    · have e := ce_if0 e hc16
      refine lv_iload_n hx9 hb d12_farthest_19 rfl (lv_at hl 1 rfl) ?_
      refine lv_aload_n hx9 hb d12_farthest_20 rfl (lv_at hl 0 rfl) ?_
      refine gf_12_59 C hH d12_farthest_21 ?_
      refine lv_iload_n hx9 hb d12_farthest_24 rfl (lv_at hl 2 rfl) ?_
      obtain ⟨hi25, e⟩ := ce_gd e
      refine ce_iald C hH lc_84.1 lc_84.2 (ce_in_vp hi25) d12_farthest_25 ?_
      refine va_mmax hx9 hb (C.2.2.1.trans hl.1.symm) C.2.2.2.1 (C.2.2.2.2.1 _ ml_12_189) (C.2.2.2.2.1 _ mt_Mmax) (C.2.2.2.2.1 _ mI_M) (C.2.2.2.2.1 _ mc_Mmax) (Nat.le_of_ble_eq_true rfl) (Nat.le_of_ble_eq_true rfl) (Nat.le_of_ble_eq_true rfl) (Nat.le_of_ble_eq_true rfl) d12_farthest_26 ?_
      refine lv_istore_n (lv' := [(2, .int (if x2 < (h 84 (x3).toNatClampNeg) then (h 84 (x3).toNatClampNeg) else x2)), (0, .ref (ad 68)), (3, .int x3)]) hx9 hb d12_farthest_29 rfl hl (by decide) rfl (fun ls hl => ?_)
      refine lv_iinc (v := x3 + (1 : Int32)) (lv' := [(3, .int (x3 + (1 : Int32))), (2, .int (if x2 < (h 84 (x3).toNatClampNeg) then (h 84 (x3).toNatClampNeg) else x2)), (0, .ref (ad 68))]) hx9 hb d12_farthest_30 hl (k := 2) rfl rfl (by decide) rfl (fun ls hl => ?_)
      refine lv_goto (tgt := 9) hx9 hb d12_farthest_33 (by decide) ?_
      exact ih (if x2 < (h 84 (x3).toNatClampNeg) then (h 84 (x3).toNatClampNeg) else x2) (x3 + (1 : Int32)) h _ _ _ hH (lv_sub hl [2, 1, 0] rfl) e
def f12_farthest (F : Nat) (x1 : Int32) (h : Hp) : Option (Int32 × Hp) :=
  Option.bind (f12_laysWays F x1 h) (fun o2 =>
    Option.bind (ce_it (fun (st : Int32 × Int32 × Hp) => f12_farthest_b9 F  st.1 st.2.1 st.2.2) F ((0 : Int32), (0 : Int32), o2)) (fun o9 =>
      some (o9.1, o9.2)))
set_option maxRecDepth 20000 in
theorem c12_farthest (l : Launch) (D : va_G) (ad : Nat → Nat) (cA : Nat → ClassId) (aK aV : Nat → Nat) (B0 : Nat) (hA : ce_Ad ad B0) (F : Nat) (x1 : Int32)  (h : Hp) (r : Int32 × Hp) (e : f12_farthest F x1 h = some r) : ce_Ct l D ad cA B0 (ce_St aK aV B0) y12_farthest b12_farthest 4 (some .int) 14 368 0 0 [.ref (ad 68), .int x1] h (some (.int r.1)) r.2 := by
  refine ce_enter hA (by decide) rfl (Nat.le_of_ble_eq_true rfl) (fun p e0 s m below meth c ls C hH hl => ?_)
  have hl : lv_has ls 4 [(0, .ref (ad 68)), (1, .int x1)] := hl
  have hx := C.1
  have hb := C.2.1
  have e : Option.bind _ some = some r := (congrArg (fun z => Option.bind z some) e).trans rfl
  unfold f12_farthest at e
  refine lv_aload_n hx hb d12_farthest_0 rfl (lv_at hl 0 rfl) ?_
  refine lv_iload_n hx hb d12_farthest_1 rfl (lv_at hl 1 rfl) ?_
  obtain ⟨o2, eo2, e⟩ := ce_bd e
  refine ce_callV (As := [.int x1]) (rest := []) C (ce_sok aK aV B0) hH (c12_laysWays l D ad cA aK aV B0 C.2.2.2.2.2.2.1 F x1  h o2 eo2) lo_68.1 lo_68.2.choose_spec rfl rfl mc12_laysWays ml_12_298 mi12_laysWays ms12_laysWays mI_12 (n := 1) (by decide) rfl ⟨Nat.le_of_ble_eq_true rfl, Nat.le_of_ble_eq_true rfl⟩ ⟨Nat.le_of_ble_eq_true rfl, Nat.le_of_ble_eq_true rfl⟩ hl.1 rfl (Nat.le_of_ble_eq_true rfl) d12_farthest_2 (fun H locs hH => ?_)
  refine W.eq (g2 := F0 m 5 ls []) rfl ?_
  refine lv_iconst (v := (0 : Int32)) hx hb d12_farthest_5 (by decide) ?_
  refine lv_istore_n (lv' := [(2, .int (0 : Int32)), (0, .ref (ad 68)), (1, .int x1)]) hx hb d12_farthest_6 rfl hl (by decide) rfl (fun ls hl => ?_)
  refine lv_iconst (v := (0 : Int32)) hx hb d12_farthest_7 (by decide) ?_
  refine lv_istore_n (lv' := [(3, .int (0 : Int32)), (2, .int (0 : Int32)), (0, .ref (ad 68)), (1, .int x1)]) hx hb d12_farthest_8 rfl hl (by decide) rfl (fun ls hl => ?_)
  refine l12_farthest_9 C F   r _ (fun y9_2 h_9 H locs ls hH hl e => ?_) F (0 : Int32) (0 : Int32) o2 _ _ _ hH (lv_sub hl [2, 1, 0] rfl) (ce_as e)
  try dsimp only at e
  refine lv_iload_n hx hb d12_farthest_36 rfl (lv_at hl 0 rfl) ?_
  exact ce_iretE C (ce_sok aK aV B0) hH e d12_farthest_37
abbrev b12_longestOf : ByteArray := prog_14_method_68_code
def y12_longestOf : MethodName := ⟨cn_12, "longestOf", "(I)I"⟩
theorem d12_longestOf_0 : decode b12_longestOf 0 = .ok (.aload_n 0, 1) := by decide +kernel
theorem d12_longestOf_1 : decode b12_longestOf 1 = .ok (.invokevirtual 227, 3) := by decide +kernel
theorem d12_longestOf_4 : decode b12_longestOf 4 = .ok (.iconst 0, 1) := by decide +kernel
theorem d12_longestOf_5 : decode b12_longestOf 5 = .ok (.istore_n 2, 1) := by decide +kernel
theorem d12_longestOf_6 : decode b12_longestOf 6 = .ok (.iconst 0, 1) := by decide +kernel
theorem d12_longestOf_7 : decode b12_longestOf 7 = .ok (.istore_n 3, 1) := by decide +kernel
theorem d12_longestOf_8 : decode b12_longestOf 8 = .ok (.iload_n 3, 1) := by decide +kernel
theorem d12_longestOf_9 : decode b12_longestOf 9 = .ok (.aload_n 0, 1) := by decide +kernel
theorem d12_longestOf_10 : decode b12_longestOf 10 = .ok (.getfield 7, 3) := by decide +kernel
theorem d12_longestOf_13 : decode b12_longestOf 13 = .ok (.iconst 2, 1) := by decide +kernel
theorem d12_longestOf_14 : decode b12_longestOf 14 = .ok (.iaload, 1) := by decide +kernel
theorem d12_longestOf_15 : decode b12_longestOf 15 = .ok (.if_icmp .ge 38, 3) := by decide +kernel
theorem d12_longestOf_18 : decode b12_longestOf 18 = .ok (.aload_n 0, 1) := by decide +kernel
theorem d12_longestOf_19 : decode b12_longestOf 19 = .ok (.getfield 32, 3) := by decide +kernel
theorem d12_longestOf_22 : decode b12_longestOf 22 = .ok (.iload_n 3, 1) := by decide +kernel
theorem d12_longestOf_23 : decode b12_longestOf 23 = .ok (.iaload, 1) := by decide +kernel
theorem d12_longestOf_24 : decode b12_longestOf 24 = .ok (.aload_n 0, 1) := by decide +kernel
theorem d12_longestOf_25 : decode b12_longestOf 25 = .ok (.getfield 32, 3) := by decide +kernel
theorem d12_longestOf_28 : decode b12_longestOf 28 = .ok (.iload_n 1, 1) := by decide +kernel
theorem d12_longestOf_29 : decode b12_longestOf 29 = .ok (.iaload, 1) := by decide +kernel
theorem d12_longestOf_30 : decode b12_longestOf 30 = .ok (.if_icmp .ne 15, 3) := by decide +kernel
theorem d12_longestOf_33 : decode b12_longestOf 33 = .ok (.iload_n 2, 1) := by decide +kernel
theorem d12_longestOf_34 : decode b12_longestOf 34 = .ok (.aload_n 0, 1) := by decide +kernel
theorem d12_longestOf_35 : decode b12_longestOf 35 = .ok (.iload_n 3, 1) := by decide +kernel
theorem d12_longestOf_36 : decode b12_longestOf 36 = .ok (.invokevirtual 304, 3) := by decide +kernel
theorem d12_longestOf_39 : decode b12_longestOf 39 = .ok (.invokestatic 189, 3) := by decide +kernel
theorem d12_longestOf_42 : decode b12_longestOf 42 = .ok (.goto 4, 3) := by decide +kernel
theorem d12_longestOf_45 : decode b12_longestOf 45 = .ok (.iload_n 2, 1) := by decide +kernel
theorem d12_longestOf_46 : decode b12_longestOf 46 = .ok (.istore_n 2, 1) := by decide +kernel
theorem d12_longestOf_47 : decode b12_longestOf 47 = .ok (.iinc 3 1, 3) := by decide +kernel
theorem d12_longestOf_50 : decode b12_longestOf 50 = .ok (.goto (-42), 3) := by decide +kernel
theorem d12_longestOf_53 : decode b12_longestOf 53 = .ok (.iload_n 2, 1) := by decide +kernel
theorem d12_longestOf_54 : decode b12_longestOf 54 = .ok (.ireturn, 1) := by decide +kernel
theorem mc12_farthest : Cond.code y12_farthest b12_farthest 4 (some .int) ∈ ce_cm := ce_cm_of (List.mem_of_getElem? (i := 1529) (by decide +kernel)) (by decide +kernel)
theorem ml_12_304 : Cond.methodLink cn_12 304 y12_farthest ∈ ce_cm := ce_cm_of (List.mem_of_getElem? (i := 1526) (by decide +kernel)) (by decide +kernel)
theorem mi12_farthest : Cond.instanceMethod y12_farthest ∈ ce_cm := ce_cm_of (List.mem_of_getElem? (i := 1528) (by decide +kernel)) (by decide +kernel)
theorem ms12_farthest : Cond.selects cn_12 y12_farthest y12_farthest ∈ ce_cm := ce_cm_of (List.mem_of_getElem? (i := 74) (by decide +kernel)) (by decide +kernel)
def f12_longestOf_b8 (F : Nat) (x1 : Int32) (x2 : Int32) (x3 : Int32) (h : Hp) : Option ((Int32 × Int32 × Hp) ⊕ (Int32 × Hp)) :=
  if (h 69 ((2 : Int32)).toNatClampNeg) ≤ x3 then
    some (.inr (x2, h))
  else
    if ce_in x3 10 = true then
      if ce_in x1 10 = true then
        if (h 75 (x3).toNatClampNeg) = (h 75 (x1).toNatClampNeg) then
          Option.bind (f12_farthest F x3 h) (fun o36 =>
            some (.inl ((if x2 < o36.1 then o36.1 else x2), x3 + (1 : Int32), o36.2)))
        else
          some (.inl (x2, x3 + (1 : Int32), h))
      else none
    else none
set_option maxRecDepth 20000 in
theorem l12_longestOf_8 (C : ce_Cx p s m args c meth b12_longestOf 4 (some .int) cn_12 D ad cA B0 (ce_St aK aV B0)) (F : Nat) (x1 : Int32)  (r : Int32 × Hp) (g : (Int32 × Hp) → Option (Int32 × Hp)) (hx : ∀ (x2 : Int32) (h : Hp) (H : Heap) (locs : List Loc) (ls : Array Slot), ce_H D ad cA B0 [] s h H locs → lv_has ls 4 [(2, .int x2)] → g (x2, h) = some r → W p l e0 { frames := 15, cells := 0, slots := 0, locals := 391 } s m args below meth c H locs 0 0 (MQ below (ce_Q D ad cA B0 (ce_St aK aV B0) (some (.int r.1)) r.2) args s 0 0 (fun q => B0 ≤ q)) (F0 m 53 ls [])) : ∀ (n : Nat) (x2 : Int32) (x3 : Int32) (h : Hp) (H : Heap) (locs : List Loc) (ls : Array Slot), ce_H D ad cA B0 [] s h H locs → lv_has ls 4 [(0, .ref (ad 68)), (1, .int x1), (2, .int x2), (3, .int x3)] → Option.bind (ce_it (fun (st : Int32 × Int32 × Hp) => f12_longestOf_b8 F x1 st.1 st.2.1 st.2.2) n (x2, x3, h)) g = some r → W p l e0 { frames := 15, cells := 0, slots := 0, locals := 391 } s m args below meth c H locs 0 0 (MQ below (ce_Q D ad cA B0 (ce_St aK aV B0) (some (.int r.1)) r.2) args s 0 0 (fun q => B0 ≤ q)) (F0 m 8 ls []) := by
  intro n
  induction n with
  | zero =>
    intro x2 x3 h H locs ls hH hl e
    exact absurd e (fun z => by cases z)
  | succ n ih =>
    intro x2 x3 h H locs ls hH hl e
    have hx9 := C.1
    have hb := C.2.1
    have e : Option.bind (f12_longestOf_b8 F x1 x2 x3 h) _ = some r := ce_it_bd e
    unfold f12_longestOf_b8 at e
    refine lv_iload_n hx9 hb d12_longestOf_8 rfl (lv_at hl 3 rfl) ?_
    refine lv_aload_n hx9 hb d12_longestOf_9 rfl (lv_at hl 0 rfl) ?_
    refine gf_12_7 C hH d12_longestOf_10 ?_
    refine lv_iconst (v := (2 : Int32)) hx9 hb d12_longestOf_13 (by decide) ?_
    refine ce_iald C hH lc_69.1 lc_69.2 (ce_in_vp (by decide)) d12_longestOf_14 ?_
    refine lv_icmp_ge (tgt := 53) hx9 hb d12_longestOf_15 (by decide) (fun hc15 => ?_) (fun hc15 => ?_)
    · have e := ce_if1 e hc15
      exact hx x2 h _ _ _ hH (lv_sub hl [2] rfl) e
    · have e := ce_if0 e hc15
      refine lv_aload_n hx9 hb d12_longestOf_18 rfl (lv_at hl 0 rfl) ?_
      refine gf_12_32 C hH d12_longestOf_19 ?_
      refine lv_iload_n hx9 hb d12_longestOf_22 rfl (lv_at hl 3 rfl) ?_
      obtain ⟨hi23, e⟩ := ce_gd e
      refine ce_iald C hH lc_75.1 lc_75.2 (ce_in_vp hi23) d12_longestOf_23 ?_
      refine lv_aload_n hx9 hb d12_longestOf_24 rfl (lv_at hl 0 rfl) ?_
      refine gf_12_32 C hH d12_longestOf_25 ?_
      refine lv_iload_n hx9 hb d12_longestOf_28 rfl (lv_at hl 1 rfl) ?_
      obtain ⟨hi29, e⟩ := ce_gd e
      refine ce_iald C hH lc_75.1 lc_75.2 (ce_in_vp hi29) d12_longestOf_29 ?_
      refine lv_icmp_ne (tgt := 45) hx9 hb d12_longestOf_30 (by decide) (fun hc30 => ?_) (fun hc30 => ?_)
      · have e := ce_if0 e hc30
        refine lv_iload_n hx9 hb d12_longestOf_45 rfl (lv_at hl 2 rfl) ?_
        refine lv_istore_n (lv' := [(2, .int x2), (0, .ref (ad 68)), (1, .int x1), (3, .int x3)]) hx9 hb d12_longestOf_46 rfl hl (by decide) rfl (fun ls hl => ?_)
        refine lv_iinc (v := x3 + (1 : Int32)) (lv' := [(3, .int (x3 + (1 : Int32))), (2, .int x2), (0, .ref (ad 68)), (1, .int x1)]) hx9 hb d12_longestOf_47 hl (k := 3) rfl rfl (by decide) rfl (fun ls hl => ?_)
        refine lv_goto (tgt := 8) hx9 hb d12_longestOf_50 (by decide) ?_
        exact ih x2 (x3 + (1 : Int32)) h _ _ _ hH (lv_sub hl [2, 3, 1, 0] rfl) e
      · have e := ce_if1 e hc30
        refine lv_iload_n hx9 hb d12_longestOf_33 rfl (lv_at hl 2 rfl) ?_
        refine lv_aload_n hx9 hb d12_longestOf_34 rfl (lv_at hl 0 rfl) ?_
        refine lv_iload_n hx9 hb d12_longestOf_35 rfl (lv_at hl 3 rfl) ?_
        obtain ⟨o36, eo36, e⟩ := ce_bd e
        refine ce_callV (As := [.int x3]) (rest := [.int x2]) C (ce_sok aK aV B0) hH (c12_farthest l D ad cA aK aV B0 C.2.2.2.2.2.2.1 F x3  h o36 eo36) lo_68.1 lo_68.2.choose_spec rfl rfl mc12_farthest ml_12_304 mi12_farthest ms12_farthest mI_12 (n := 1) (by decide) rfl ⟨Nat.le_of_ble_eq_true rfl, Nat.le_of_ble_eq_true rfl⟩ ⟨Nat.le_of_ble_eq_true rfl, Nat.le_of_ble_eq_true rfl⟩ hl.1 rfl (Nat.le_of_ble_eq_true rfl) d12_longestOf_36 (fun H locs hH => ?_)
        refine W.eq (g2 := F0 m 39 ls [.int o36.1, .int x2]) rfl ?_
        refine va_mmax hx9 hb (C.2.2.1.trans hl.1.symm) C.2.2.2.1 (C.2.2.2.2.1 _ ml_12_189) (C.2.2.2.2.1 _ mt_Mmax) (C.2.2.2.2.1 _ mI_M) (C.2.2.2.2.1 _ mc_Mmax) (Nat.le_of_ble_eq_true rfl) (Nat.le_of_ble_eq_true rfl) (Nat.le_of_ble_eq_true rfl) (Nat.le_of_ble_eq_true rfl) d12_longestOf_39 ?_
        refine lv_goto (tgt := 46) hx9 hb d12_longestOf_42 (by decide) ?_
        refine lv_istore_n (lv' := [(2, .int (if x2 < o36.1 then o36.1 else x2)), (0, .ref (ad 68)), (1, .int x1), (3, .int x3)]) hx9 hb d12_longestOf_46 rfl hl (by decide) rfl (fun ls hl => ?_)
        refine lv_iinc (v := x3 + (1 : Int32)) (lv' := [(3, .int (x3 + (1 : Int32))), (2, .int (if x2 < o36.1 then o36.1 else x2)), (0, .ref (ad 68)), (1, .int x1)]) hx9 hb d12_longestOf_47 hl (k := 3) rfl rfl (by decide) rfl (fun ls hl => ?_)
        refine lv_goto (tgt := 8) hx9 hb d12_longestOf_50 (by decide) ?_
        exact ih (if x2 < o36.1 then o36.1 else x2) (x3 + (1 : Int32)) o36.2 _ _ _ hH (lv_sub hl [2, 3, 1, 0] rfl) e
def f12_longestOf (F : Nat) (x1 : Int32) (h : Hp) : Option (Int32 × Hp) :=
  Option.bind (f12_laysBuses F  h) (fun o1 =>
    Option.bind (ce_it (fun (st : Int32 × Int32 × Hp) => f12_longestOf_b8 F x1 st.1 st.2.1 st.2.2) F ((0 : Int32), (0 : Int32), o1)) (fun o8 =>
      some (o8.1, o8.2)))
set_option maxRecDepth 20000 in
theorem c12_longestOf (l : Launch) (D : va_G) (ad : Nat → Nat) (cA : Nat → ClassId) (aK aV : Nat → Nat) (B0 : Nat) (hA : ce_Ad ad B0) (F : Nat) (x1 : Int32)  (h : Hp) (r : Int32 × Hp) (e : f12_longestOf F x1 h = some r) : ce_Ct l D ad cA B0 (ce_St aK aV B0) y12_longestOf b12_longestOf 4 (some .int) 15 391 0 0 [.ref (ad 68), .int x1] h (some (.int r.1)) r.2 := by
  refine ce_enter hA (by decide) rfl (Nat.le_of_ble_eq_true rfl) (fun p e0 s m below meth c ls C hH hl => ?_)
  have hl : lv_has ls 4 [(0, .ref (ad 68)), (1, .int x1)] := hl
  have hx := C.1
  have hb := C.2.1
  have e : Option.bind _ some = some r := (congrArg (fun z => Option.bind z some) e).trans rfl
  unfold f12_longestOf at e
  refine lv_aload_n hx hb d12_longestOf_0 rfl (lv_at hl 0 rfl) ?_
  obtain ⟨o1, eo1, e⟩ := ce_bd e
  refine ce_callV (As := []) (rest := []) C (ce_sok aK aV B0) hH (c12_laysBuses l D ad cA aK aV B0 C.2.2.2.2.2.2.1 F   h o1 eo1) lo_68.1 lo_68.2.choose_spec rfl rfl mc12_laysBuses ml_12_227 mi12_laysBuses ms12_laysBuses mI_12 (n := 0) (by decide) rfl ⟨Nat.le_of_ble_eq_true rfl, Nat.le_of_ble_eq_true rfl⟩ ⟨Nat.le_of_ble_eq_true rfl, Nat.le_of_ble_eq_true rfl⟩ hl.1 rfl (Nat.le_of_ble_eq_true rfl) d12_longestOf_1 (fun H locs hH => ?_)
  refine W.eq (g2 := F0 m 4 ls []) rfl ?_
  refine lv_iconst (v := (0 : Int32)) hx hb d12_longestOf_4 (by decide) ?_
  refine lv_istore_n (lv' := [(2, .int (0 : Int32)), (0, .ref (ad 68)), (1, .int x1)]) hx hb d12_longestOf_5 rfl hl (by decide) rfl (fun ls hl => ?_)
  refine lv_iconst (v := (0 : Int32)) hx hb d12_longestOf_6 (by decide) ?_
  refine lv_istore_n (lv' := [(3, .int (0 : Int32)), (2, .int (0 : Int32)), (0, .ref (ad 68)), (1, .int x1)]) hx hb d12_longestOf_7 rfl hl (by decide) rfl (fun ls hl => ?_)
  refine l12_longestOf_8 C F x1  r _ (fun y8_2 h_8 H locs ls hH hl e => ?_) F (0 : Int32) (0 : Int32) o1 _ _ _ hH (lv_sub hl [2, 3, 1, 0] rfl) (ce_as e)
  try dsimp only at e
  refine lv_iload_n hx hb d12_longestOf_53 rfl (lv_at hl 0 rfl) ?_
  exact ce_iretE C (ce_sok aK aV B0) hH e d12_longestOf_54
abbrev b12_gapOf : ByteArray := prog_14_method_69_code
def y12_gapOf : MethodName := ⟨cn_12, "gapOf", "(I)I"⟩
theorem d12_gapOf_0 : decode b12_gapOf 0 = .ok (.iconst 2, 1) := by decide +kernel
theorem d12_gapOf_1 : decode b12_gapOf 1 = .ok (.aload_n 0, 1) := by decide +kernel
theorem d12_gapOf_2 : decode b12_gapOf 2 = .ok (.iload_n 1, 1) := by decide +kernel
theorem d12_gapOf_3 : decode b12_gapOf 3 = .ok (.invokevirtual 307, 3) := by decide +kernel
theorem d12_gapOf_6 : decode b12_gapOf 6 = .ok (.imul, 1) := by decide +kernel
theorem d12_gapOf_7 : decode b12_gapOf 7 = .ok (.iconst 5, 1) := by decide +kernel
theorem d12_gapOf_8 : decode b12_gapOf 8 = .ok (.iadd, 1) := by decide +kernel
theorem d12_gapOf_9 : decode b12_gapOf 9 = .ok (.bipush 7, 2) := by decide +kernel
theorem d12_gapOf_11 : decode b12_gapOf 11 = .ok (.iadd, 1) := by decide +kernel
theorem d12_gapOf_12 : decode b12_gapOf 12 = .ok (.bipush 8, 2) := by decide +kernel
theorem d12_gapOf_14 : decode b12_gapOf 14 = .ok (.idiv, 1) := by decide +kernel
theorem d12_gapOf_15 : decode b12_gapOf 15 = .ok (.ireturn, 1) := by decide +kernel
theorem mc12_longestOf : Cond.code y12_longestOf b12_longestOf 4 (some .int) ∈ ce_cm := ce_cm_of (List.mem_of_getElem? (i := 1525) (by decide +kernel)) (by decide +kernel)
theorem ml_12_307 : Cond.methodLink cn_12 307 y12_longestOf ∈ ce_cm := ce_cm_of (List.mem_of_getElem? (i := 1522) (by decide +kernel)) (by decide +kernel)
theorem mi12_longestOf : Cond.instanceMethod y12_longestOf ∈ ce_cm := ce_cm_of (List.mem_of_getElem? (i := 1524) (by decide +kernel)) (by decide +kernel)
theorem ms12_longestOf : Cond.selects cn_12 y12_longestOf y12_longestOf ∈ ce_cm := ce_cm_of (List.mem_of_getElem? (i := 73) (by decide +kernel)) (by decide +kernel)
def f12_gapOf (F : Nat) (x1 : Int32) (h : Hp) : Option (Int32 × Hp) :=
  Option.bind (f12_longestOf F x1 h) (fun o3 =>
    some (((((2 : Int32) * o3.1) + (5 : Int32)) + (7 : Int32)) / (8 : Int32), o3.2))
set_option maxRecDepth 20000 in
theorem c12_gapOf (l : Launch) (D : va_G) (ad : Nat → Nat) (cA : Nat → ClassId) (aK aV : Nat → Nat) (B0 : Nat) (hA : ce_Ad ad B0) (F : Nat) (x1 : Int32)  (h : Hp) (r : Int32 × Hp) (e : f12_gapOf F x1 h = some r) : ce_Ct l D ad cA B0 (ce_St aK aV B0) y12_gapOf b12_gapOf 2 (some .int) 16 414 0 0 [.ref (ad 68), .int x1] h (some (.int r.1)) r.2 := by
  refine ce_enter hA (by decide) rfl (Nat.le_of_ble_eq_true rfl) (fun p e0 s m below meth c ls C hH hl => ?_)
  have hl : lv_has ls 2 [(0, .ref (ad 68)), (1, .int x1)] := hl
  have hx := C.1
  have hb := C.2.1
  have e : Option.bind _ some = some r := (congrArg (fun z => Option.bind z some) e).trans rfl
  unfold f12_gapOf at e
  refine lv_iconst (v := (2 : Int32)) hx hb d12_gapOf_0 (by decide) ?_
  refine lv_aload_n hx hb d12_gapOf_1 rfl (lv_at hl 0 rfl) ?_
  refine lv_iload_n hx hb d12_gapOf_2 rfl (lv_at hl 1 rfl) ?_
  obtain ⟨o3, eo3, e⟩ := ce_bd e
  refine ce_callV (As := [.int x1]) (rest := [.int (2 : Int32)]) C (ce_sok aK aV B0) hH (c12_longestOf l D ad cA aK aV B0 C.2.2.2.2.2.2.1 F x1  h o3 eo3) lo_68.1 lo_68.2.choose_spec rfl rfl mc12_longestOf ml_12_307 mi12_longestOf ms12_longestOf mI_12 (n := 1) (by decide) rfl ⟨Nat.le_of_ble_eq_true rfl, Nat.le_of_ble_eq_true rfl⟩ ⟨Nat.le_of_ble_eq_true rfl, Nat.le_of_ble_eq_true rfl⟩ hl.1 rfl (Nat.le_of_ble_eq_true rfl) d12_gapOf_3 (fun H locs hH => ?_)
  refine W.eq (g2 := F0 m 6 ls [.int o3.1, .int (2 : Int32)]) rfl ?_
  refine lv_imul hx hb d12_gapOf_6 ?_
  refine lv_iconst (v := (5 : Int32)) hx hb d12_gapOf_7 (by decide) ?_
  refine lv_iadd hx hb d12_gapOf_8 ?_
  refine lv_bipush (v := (7 : Int32)) hx hb d12_gapOf_9 (by decide) ?_
  refine lv_iadd hx hb d12_gapOf_11 ?_
  refine lv_bipush (v := (8 : Int32)) hx hb d12_gapOf_12 (by decide) ?_
  refine lv_idiv hx hb d12_gapOf_14 (by decide) ?_
  exact ce_iretE C (ce_sok aK aV B0) hH e d12_gapOf_15
abbrev b12_whyNoWays : ByteArray := prog_14_method_70_code
def y12_whyNoWays : MethodName := ⟨cn_12, "whyNoWays", "(I)I"⟩
theorem d12_whyNoWays_0 : decode b12_whyNoWays 0 = .ok (.aload_n 0, 1) := by decide +kernel
theorem d12_whyNoWays_1 : decode b12_whyNoWays 1 = .ok (.iload_n 1, 1) := by decide +kernel
theorem d12_whyNoWays_2 : decode b12_whyNoWays 2 = .ok (.invokevirtual 220, 3) := by decide +kernel
theorem d12_whyNoWays_5 : decode b12_whyNoWays 5 = .ok (.ifCond .ne 8, 3) := by decide +kernel
theorem d12_whyNoWays_8 : decode b12_whyNoWays 8 = .ok (.bipush (-2), 2) := by decide +kernel
theorem d12_whyNoWays_10 : decode b12_whyNoWays 10 = .ok (.goto 16, 3) := by decide +kernel
theorem d12_whyNoWays_13 : decode b12_whyNoWays 13 = .ok (.aload_n 0, 1) := by decide +kernel
theorem d12_whyNoWays_14 : decode b12_whyNoWays 14 = .ok (.iload_n 1, 1) := by decide +kernel
theorem d12_whyNoWays_15 : decode b12_whyNoWays 15 = .ok (.invokevirtual 233, 3) := by decide +kernel
theorem d12_whyNoWays_18 : decode b12_whyNoWays 18 = .ok (.ifCond .eq 7, 3) := by decide +kernel
theorem d12_whyNoWays_21 : decode b12_whyNoWays 21 = .ok (.iconst (-1), 1) := by decide +kernel
theorem d12_whyNoWays_22 : decode b12_whyNoWays 22 = .ok (.goto 4, 3) := by decide +kernel
theorem d12_whyNoWays_25 : decode b12_whyNoWays 25 = .ok (.iconst 0, 1) := by decide +kernel
theorem d12_whyNoWays_26 : decode b12_whyNoWays 26 = .ok (.ireturn, 1) := by decide +kernel
def f12_whyNoWays (F : Nat) (x1 : Int32) (h : Hp) : Option (Int32 × Hp) :=
  Option.bind (f12_isNode F x1 h) (fun o2 =>
    if o2.1 = 0 then
      some ((-2 : Int32), o2.2)
    else
      Option.bind (f12_isLoop F x1 o2.2) (fun o15 =>
        if o15.1 = 0 then
          some ((0 : Int32), o15.2)
        else
          some ((-1 : Int32), o15.2)))
set_option maxRecDepth 20000 in
theorem c12_whyNoWays (l : Launch) (D : va_G) (ad : Nat → Nat) (cA : Nat → ClassId) (aK aV : Nat → Nat) (B0 : Nat) (hA : ce_Ad ad B0) (F : Nat) (x1 : Int32)  (h : Hp) (r : Int32 × Hp) (e : f12_whyNoWays F x1 h = some r) : ce_Ct l D ad cA B0 (ce_St aK aV B0) y12_whyNoWays b12_whyNoWays 2 (some .int) 4 91 0 0 [.ref (ad 68), .int x1] h (some (.int r.1)) r.2 := by
  refine ce_enter hA (by decide) rfl (Nat.le_of_ble_eq_true rfl) (fun p e0 s m below meth c ls C hH hl => ?_)
  have hl : lv_has ls 2 [(0, .ref (ad 68)), (1, .int x1)] := hl
  have hx := C.1
  have hb := C.2.1
  have e : Option.bind _ some = some r := (congrArg (fun z => Option.bind z some) e).trans rfl
  unfold f12_whyNoWays at e
  refine lv_aload_n hx hb d12_whyNoWays_0 rfl (lv_at hl 0 rfl) ?_
  refine lv_iload_n hx hb d12_whyNoWays_1 rfl (lv_at hl 1 rfl) ?_
  obtain ⟨o2, eo2, e⟩ := ce_bd e
  refine ce_callV (As := [.int x1]) (rest := []) C (ce_sok aK aV B0) hH (c12_isNode l D ad cA aK aV B0 C.2.2.2.2.2.2.1 F x1  h o2 eo2) lo_68.1 lo_68.2.choose_spec rfl rfl mc12_isNode ml_12_220 mi12_isNode ms12_isNode mI_12 (n := 1) (by decide) rfl ⟨Nat.le_of_ble_eq_true rfl, Nat.le_of_ble_eq_true rfl⟩ ⟨Nat.le_of_ble_eq_true rfl, Nat.le_of_ble_eq_true rfl⟩ hl.1 rfl (Nat.le_of_ble_eq_true rfl) d12_whyNoWays_2 (fun H locs hH => ?_)
  refine W.eq (g2 := F0 m 5 ls [.int o2.1]) rfl ?_
  refine lv_if_ne (tgt := 13) hx hb d12_whyNoWays_5 (by decide) (fun hc5 => ?_) (fun hc5 => ?_)
  · have e := ce_if0 e hc5
    refine lv_aload_n hx hb d12_whyNoWays_13 rfl (lv_at hl 0 rfl) ?_
    refine lv_iload_n hx hb d12_whyNoWays_14 rfl (lv_at hl 1 rfl) ?_
    obtain ⟨o15, eo15, e⟩ := ce_bd e
    refine ce_callV (As := [.int x1]) (rest := []) C (ce_sok aK aV B0) hH (c12_isLoop l D ad cA aK aV B0 C.2.2.2.2.2.2.1 F x1  o2.2 o15 eo15) lo_68.1 lo_68.2.choose_spec rfl rfl mc12_isLoop ml_12_233 mi12_isLoop ms12_isLoop mI_12 (n := 1) (by decide) rfl ⟨Nat.le_of_ble_eq_true rfl, Nat.le_of_ble_eq_true rfl⟩ ⟨Nat.le_of_ble_eq_true rfl, Nat.le_of_ble_eq_true rfl⟩ hl.1 rfl (Nat.le_of_ble_eq_true rfl) d12_whyNoWays_15 (fun H locs hH => ?_)
    refine W.eq (g2 := F0 m 18 ls [.int o15.1]) rfl ?_
    refine lv_if_eq (tgt := 25) hx hb d12_whyNoWays_18 (by decide) (fun hc18 => ?_) (fun hc18 => ?_)
    · have e := ce_if1 e hc18
      refine lv_iconst (v := (0 : Int32)) hx hb d12_whyNoWays_25 (by decide) ?_
      exact ce_iretE C (ce_sok aK aV B0) hH e d12_whyNoWays_26
    · have e := ce_if0 e hc18
      refine lv_iconst (v := (-1 : Int32)) hx hb d12_whyNoWays_21 (by decide) ?_
      refine lv_goto (tgt := 26) hx hb d12_whyNoWays_22 (by decide) ?_
      exact ce_iretE C (ce_sok aK aV B0) hH e d12_whyNoWays_26
  · have e := ce_if1 e hc5
    refine lv_bipush (v := (-2 : Int32)) hx hb d12_whyNoWays_8 (by decide) ?_
    refine lv_goto (tgt := 26) hx hb d12_whyNoWays_10 (by decide) ?_
    exact ce_iretE C (ce_sok aK aV B0) hH e d12_whyNoWays_26
abbrev b12_longest : ByteArray := prog_14_method_71_code
def y12_longest : MethodName := ⟨cn_12, "longest", "(I)I"⟩
theorem d12_longest_0 : decode b12_longest 0 = .ok (.aload_n 0, 1) := by decide +kernel
theorem d12_longest_1 : decode b12_longest 1 = .ok (.iload_n 1, 1) := by decide +kernel
theorem d12_longest_2 : decode b12_longest 2 = .ok (.invokevirtual 310, 3) := by decide +kernel
theorem d12_longest_5 : decode b12_longest 5 = .ok (.istore_n 2, 1) := by decide +kernel
theorem d12_longest_6 : decode b12_longest 6 = .ok (.iload_n 2, 1) := by decide +kernel
theorem d12_longest_7 : decode b12_longest 7 = .ok (.ifCond .ge 7, 3) := by decide +kernel
theorem d12_longest_10 : decode b12_longest 10 = .ok (.iload_n 2, 1) := by decide +kernel
theorem d12_longest_11 : decode b12_longest 11 = .ok (.goto 8, 3) := by decide +kernel
theorem d12_longest_14 : decode b12_longest 14 = .ok (.aload_n 0, 1) := by decide +kernel
theorem d12_longest_15 : decode b12_longest 15 = .ok (.iload_n 1, 1) := by decide +kernel
theorem d12_longest_16 : decode b12_longest 16 = .ok (.invokevirtual 307, 3) := by decide +kernel
theorem d12_longest_19 : decode b12_longest 19 = .ok (.ireturn, 1) := by decide +kernel
theorem mc12_whyNoWays : Cond.code y12_whyNoWays b12_whyNoWays 2 (some .int) ∈ ce_cm := ce_cm_of (List.mem_of_getElem? (i := 1521) (by decide +kernel)) (by decide +kernel)
theorem ml_12_310 : Cond.methodLink cn_12 310 y12_whyNoWays ∈ ce_cm := ce_cm_of (List.mem_of_getElem? (i := 1518) (by decide +kernel)) (by decide +kernel)
theorem mi12_whyNoWays : Cond.instanceMethod y12_whyNoWays ∈ ce_cm := ce_cm_of (List.mem_of_getElem? (i := 1520) (by decide +kernel)) (by decide +kernel)
theorem ms12_whyNoWays : Cond.selects cn_12 y12_whyNoWays y12_whyNoWays ∈ ce_cm := ce_cm_of (List.mem_of_getElem? (i := 72) (by decide +kernel)) (by decide +kernel)
def f12_longest (F : Nat) (x1 : Int32) (h : Hp) : Option (Int32 × Hp) :=
  Option.bind (f12_whyNoWays F x1 h) (fun o2 =>
    if 0 ≤ o2.1 then
      Option.bind (f12_longestOf F x1 o2.2) (fun o16 =>
        some (o16.1, o16.2))
    else
      some (o2.1, o2.2))
set_option maxRecDepth 20000 in
theorem c12_longest (l : Launch) (D : va_G) (ad : Nat → Nat) (cA : Nat → ClassId) (aK aV : Nat → Nat) (B0 : Nat) (hA : ce_Ad ad B0) (F : Nat) (x1 : Int32)  (h : Hp) (r : Int32 × Hp) (e : f12_longest F x1 h = some r) : ce_Ct l D ad cA B0 (ce_St aK aV B0) y12_longest b12_longest 3 (some .int) 16 414 0 0 [.ref (ad 68), .int x1] h (some (.int r.1)) r.2 := by
  refine ce_enter hA (by decide) rfl (Nat.le_of_ble_eq_true rfl) (fun p e0 s m below meth c ls C hH hl => ?_)
  have hl : lv_has ls 3 [(0, .ref (ad 68)), (1, .int x1)] := hl
  have hx := C.1
  have hb := C.2.1
  have e : Option.bind _ some = some r := (congrArg (fun z => Option.bind z some) e).trans rfl
  unfold f12_longest at e
  refine lv_aload_n hx hb d12_longest_0 rfl (lv_at hl 0 rfl) ?_
  refine lv_iload_n hx hb d12_longest_1 rfl (lv_at hl 1 rfl) ?_
  obtain ⟨o2, eo2, e⟩ := ce_bd e
  refine ce_callV (As := [.int x1]) (rest := []) C (ce_sok aK aV B0) hH (c12_whyNoWays l D ad cA aK aV B0 C.2.2.2.2.2.2.1 F x1  h o2 eo2) lo_68.1 lo_68.2.choose_spec rfl rfl mc12_whyNoWays ml_12_310 mi12_whyNoWays ms12_whyNoWays mI_12 (n := 1) (by decide) rfl ⟨Nat.le_of_ble_eq_true rfl, Nat.le_of_ble_eq_true rfl⟩ ⟨Nat.le_of_ble_eq_true rfl, Nat.le_of_ble_eq_true rfl⟩ hl.1 rfl (Nat.le_of_ble_eq_true rfl) d12_longest_2 (fun H locs hH => ?_)
  refine W.eq (g2 := F0 m 5 ls [.int o2.1]) rfl ?_
  refine lv_istore_n (lv' := [(2, .int o2.1), (0, .ref (ad 68)), (1, .int x1)]) hx hb d12_longest_5 rfl hl (by decide) rfl (fun ls hl => ?_)
  refine lv_iload_n hx hb d12_longest_6 rfl (lv_at hl 0 rfl) ?_
  refine lv_if_ge (tgt := 14) hx hb d12_longest_7 (by decide) (fun hc7 => ?_) (fun hc7 => ?_)
  · have e := ce_if1 e hc7
    refine lv_aload_n hx hb d12_longest_14 rfl (lv_at hl 1 rfl) ?_
    refine lv_iload_n hx hb d12_longest_15 rfl (lv_at hl 2 rfl) ?_
    obtain ⟨o16, eo16, e⟩ := ce_bd e
    refine ce_callV (As := [.int x1]) (rest := []) C (ce_sok aK aV B0) hH (c12_longestOf l D ad cA aK aV B0 C.2.2.2.2.2.2.1 F x1  o2.2 o16 eo16) lo_68.1 lo_68.2.choose_spec rfl rfl mc12_longestOf ml_12_307 mi12_longestOf ms12_longestOf mI_12 (n := 1) (by decide) rfl ⟨Nat.le_of_ble_eq_true rfl, Nat.le_of_ble_eq_true rfl⟩ ⟨Nat.le_of_ble_eq_true rfl, Nat.le_of_ble_eq_true rfl⟩ hl.1 rfl (Nat.le_of_ble_eq_true rfl) d12_longest_16 (fun H locs hH => ?_)
    refine W.eq (g2 := F0 m 19 ls [.int o16.1]) rfl ?_
    exact ce_iretE C (ce_sok aK aV B0) hH e d12_longest_19
  · have e := ce_if0 e hc7
    refine lv_iload_n hx hb d12_longest_10 rfl (lv_at hl 0 rfl) ?_
    refine lv_goto (tgt := 19) hx hb d12_longest_11 (by decide) ?_
    exact ce_iretE C (ce_sok aK aV B0) hH e d12_longest_19
abbrev b12_gap : ByteArray := prog_14_method_72_code
def y12_gap : MethodName := ⟨cn_12, "gap", "(I)I"⟩
theorem d12_gap_0 : decode b12_gap 0 = .ok (.aload_n 0, 1) := by decide +kernel
theorem d12_gap_1 : decode b12_gap 1 = .ok (.iload_n 1, 1) := by decide +kernel
theorem d12_gap_2 : decode b12_gap 2 = .ok (.invokevirtual 310, 3) := by decide +kernel
theorem d12_gap_5 : decode b12_gap 5 = .ok (.istore_n 2, 1) := by decide +kernel
theorem d12_gap_6 : decode b12_gap 6 = .ok (.iload_n 2, 1) := by decide +kernel
theorem d12_gap_7 : decode b12_gap 7 = .ok (.ifCond .ge 7, 3) := by decide +kernel
theorem d12_gap_10 : decode b12_gap 10 = .ok (.iload_n 2, 1) := by decide +kernel
theorem d12_gap_11 : decode b12_gap 11 = .ok (.goto 8, 3) := by decide +kernel
theorem d12_gap_14 : decode b12_gap 14 = .ok (.aload_n 0, 1) := by decide +kernel
theorem d12_gap_15 : decode b12_gap 15 = .ok (.iload_n 1, 1) := by decide +kernel
theorem d12_gap_16 : decode b12_gap 16 = .ok (.invokevirtual 313, 3) := by decide +kernel
theorem d12_gap_19 : decode b12_gap 19 = .ok (.ireturn, 1) := by decide +kernel
theorem mc12_gapOf : Cond.code y12_gapOf b12_gapOf 2 (some .int) ∈ ce_cm := ce_cm_of (List.mem_of_getElem? (i := 1537) (by decide +kernel)) (by decide +kernel)
theorem ml_12_313 : Cond.methodLink cn_12 313 y12_gapOf ∈ ce_cm := ce_cm_of (List.mem_of_getElem? (i := 1534) (by decide +kernel)) (by decide +kernel)
theorem mi12_gapOf : Cond.instanceMethod y12_gapOf ∈ ce_cm := ce_cm_of (List.mem_of_getElem? (i := 1536) (by decide +kernel)) (by decide +kernel)
theorem ms12_gapOf : Cond.selects cn_12 y12_gapOf y12_gapOf ∈ ce_cm := ce_cm_of (List.mem_of_getElem? (i := 75) (by decide +kernel)) (by decide +kernel)
def f12_gap (F : Nat) (x1 : Int32) (h : Hp) : Option (Int32 × Hp) :=
  Option.bind (f12_whyNoWays F x1 h) (fun o2 =>
    if 0 ≤ o2.1 then
      Option.bind (f12_gapOf F x1 o2.2) (fun o16 =>
        some (o16.1, o16.2))
    else
      some (o2.1, o2.2))
set_option maxRecDepth 20000 in
theorem c12_gap (l : Launch) (D : va_G) (ad : Nat → Nat) (cA : Nat → ClassId) (aK aV : Nat → Nat) (B0 : Nat) (hA : ce_Ad ad B0) (F : Nat) (x1 : Int32)  (h : Hp) (r : Int32 × Hp) (e : f12_gap F x1 h = some r) : ce_Ct l D ad cA B0 (ce_St aK aV B0) y12_gap b12_gap 3 (some .int) 17 435 0 0 [.ref (ad 68), .int x1] h (some (.int r.1)) r.2 := by
  refine ce_enter hA (by decide) rfl (Nat.le_of_ble_eq_true rfl) (fun p e0 s m below meth c ls C hH hl => ?_)
  have hl : lv_has ls 3 [(0, .ref (ad 68)), (1, .int x1)] := hl
  have hx := C.1
  have hb := C.2.1
  have e : Option.bind _ some = some r := (congrArg (fun z => Option.bind z some) e).trans rfl
  unfold f12_gap at e
  refine lv_aload_n hx hb d12_gap_0 rfl (lv_at hl 0 rfl) ?_
  refine lv_iload_n hx hb d12_gap_1 rfl (lv_at hl 1 rfl) ?_
  obtain ⟨o2, eo2, e⟩ := ce_bd e
  refine ce_callV (As := [.int x1]) (rest := []) C (ce_sok aK aV B0) hH (c12_whyNoWays l D ad cA aK aV B0 C.2.2.2.2.2.2.1 F x1  h o2 eo2) lo_68.1 lo_68.2.choose_spec rfl rfl mc12_whyNoWays ml_12_310 mi12_whyNoWays ms12_whyNoWays mI_12 (n := 1) (by decide) rfl ⟨Nat.le_of_ble_eq_true rfl, Nat.le_of_ble_eq_true rfl⟩ ⟨Nat.le_of_ble_eq_true rfl, Nat.le_of_ble_eq_true rfl⟩ hl.1 rfl (Nat.le_of_ble_eq_true rfl) d12_gap_2 (fun H locs hH => ?_)
  refine W.eq (g2 := F0 m 5 ls [.int o2.1]) rfl ?_
  refine lv_istore_n (lv' := [(2, .int o2.1), (0, .ref (ad 68)), (1, .int x1)]) hx hb d12_gap_5 rfl hl (by decide) rfl (fun ls hl => ?_)
  refine lv_iload_n hx hb d12_gap_6 rfl (lv_at hl 0 rfl) ?_
  refine lv_if_ge (tgt := 14) hx hb d12_gap_7 (by decide) (fun hc7 => ?_) (fun hc7 => ?_)
  · have e := ce_if1 e hc7
    refine lv_aload_n hx hb d12_gap_14 rfl (lv_at hl 1 rfl) ?_
    refine lv_iload_n hx hb d12_gap_15 rfl (lv_at hl 2 rfl) ?_
    obtain ⟨o16, eo16, e⟩ := ce_bd e
    refine ce_callV (As := [.int x1]) (rest := []) C (ce_sok aK aV B0) hH (c12_gapOf l D ad cA aK aV B0 C.2.2.2.2.2.2.1 F x1  o2.2 o16 eo16) lo_68.1 lo_68.2.choose_spec rfl rfl mc12_gapOf ml_12_313 mi12_gapOf ms12_gapOf mI_12 (n := 1) (by decide) rfl ⟨Nat.le_of_ble_eq_true rfl, Nat.le_of_ble_eq_true rfl⟩ ⟨Nat.le_of_ble_eq_true rfl, Nat.le_of_ble_eq_true rfl⟩ hl.1 rfl (Nat.le_of_ble_eq_true rfl) d12_gap_16 (fun H locs hH => ?_)
    refine W.eq (g2 := F0 m 19 ls [.int o16.1]) rfl ?_
    exact ce_iretE C (ce_sok aK aV B0) hH e d12_gap_19
  · have e := ce_if0 e hc7
    refine lv_iload_n hx hb d12_gap_10 rfl (lv_at hl 0 rfl) ?_
    refine lv_goto (tgt := 19) hx hb d12_gap_11 (by decide) ?_
    exact ce_iretE C (ce_sok aK aV B0) hH e d12_gap_19
end C16
