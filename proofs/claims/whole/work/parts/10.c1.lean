-- C1: functions and contracts, written by wip/whole/gen (mgen.py, walk.py, walk2.py) out of the bytecode
section C1
variable {p : Program} {l : Launch} {e0 : Env} {R : Room} {s : State} {m : MethodId} {args : Array Value} {below : List Frame} {meth : Method} {c : Code} {H : Heap} {locs : List Loc} {cells slots : Nat} {Q : State → Prop}
variable {cc : ByteArray} {pc nL : Nat} {ret : Option FieldType} {ls : Array Slot} {rest : List Value} {D : va_G} {ad : Nat → Nat} {cA : Nat → ClassId} {B0 : Nat} {X : va_W} {h : Hp} {aK aV : Nat → Nat}
def ce_ushr (x y : Int32) : Int32 := (x.toUInt32 >>> (y.toUInt32 &&& Int32.toUInt32 31)).toInt32
theorem ce_ne {x : Int32} {n : Int32} (h : ¬ x = n) : ¬ x.toInt = n.toInt := fun q => h (Int32.toInt_inj.mp q)
abbrev b11_endOf : ByteArray := prog_1_method_48_code
def y11_endOf : MethodName := ⟨cn_11, "endOf", "(II)I"⟩
theorem d11_endOf_0 : decode b11_endOf 0 = .ok (.iload_n 0, 1) := by decide +kernel
theorem d11_endOf_1 : decode b11_endOf 1 = .ok (.iconst 4, 1) := by decide +kernel
theorem d11_endOf_2 : decode b11_endOf 2 = .ok (.imul, 1) := by decide +kernel
theorem d11_endOf_3 : decode b11_endOf 3 = .ok (.iload_n 1, 1) := by decide +kernel
theorem d11_endOf_4 : decode b11_endOf 4 = .ok (.iadd, 1) := by decide +kernel
theorem d11_endOf_5 : decode b11_endOf 5 = .ok (.ireturn, 1) := by decide +kernel
def f11_endOf (F : Nat) (x0 : Int32) (x1 : Int32) (h : Hp) : Option (Int32 × Hp) :=
  some ((x0 * (4 : Int32)) + x1, h)
set_option maxRecDepth 20000 in
theorem c11_endOf (l : Launch) (D : va_G) (ad : Nat → Nat) (cA : Nat → ClassId) (aK aV : Nat → Nat) (B0 : Nat) (hA : ce_Ad ad B0) (F : Nat) (x0 : Int32) (x1 : Int32)  (h : Hp) (r : Int32 × Hp) (e : f11_endOf F x0 x1 h = some r) : ce_Ct l D ad cA B0 (ce_St aK aV B0) y11_endOf b11_endOf 2 (some .int) 0 0 0 0 [.int x0, .int x1] h (some (.int r.1)) r.2 := by
  refine ce_enter hA (by decide) rfl (Nat.le_of_ble_eq_true rfl) (fun p e0 s m below meth c ls C hH hl => ?_)
  have hl : lv_has ls 2 [(0, .int x0), (1, .int x1)] := hl
  have hx := C.1
  have hb := C.2.1
  have e : Option.bind _ some = some r := (congrArg (fun z => Option.bind z some) e).trans rfl
  unfold f11_endOf at e
  refine lv_iload_n hx hb d11_endOf_0 rfl (lv_at hl 0 rfl) ?_
  refine lv_iconst (v := (4 : Int32)) hx hb d11_endOf_1 (by decide) ?_
  refine lv_imul hx hb d11_endOf_2 ?_
  refine lv_iload_n hx hb d11_endOf_3 rfl (lv_at hl 1 rfl) ?_
  refine lv_iadd hx hb d11_endOf_4 ?_
  exact ce_iretE C (ce_sok aK aV B0) hH e d11_endOf_5
abbrev b11_nodeOf : ByteArray := prog_1_method_49_code
def y11_nodeOf : MethodName := ⟨cn_11, "nodeOf", "(I)I"⟩
theorem d11_nodeOf_0 : decode b11_nodeOf 0 = .ok (.iload_n 0, 1) := by decide +kernel
theorem d11_nodeOf_1 : decode b11_nodeOf 1 = .ok (.iconst 4, 1) := by decide +kernel
theorem d11_nodeOf_2 : decode b11_nodeOf 2 = .ok (.idiv, 1) := by decide +kernel
theorem d11_nodeOf_3 : decode b11_nodeOf 3 = .ok (.ireturn, 1) := by decide +kernel
def f11_nodeOf (F : Nat) (x0 : Int32) (h : Hp) : Option (Int32 × Hp) :=
  some (x0 / (4 : Int32), h)
set_option maxRecDepth 20000 in
theorem c11_nodeOf (l : Launch) (D : va_G) (ad : Nat → Nat) (cA : Nat → ClassId) (aK aV : Nat → Nat) (B0 : Nat) (hA : ce_Ad ad B0) (F : Nat) (x0 : Int32)  (h : Hp) (r : Int32 × Hp) (e : f11_nodeOf F x0 h = some r) : ce_Ct l D ad cA B0 (ce_St aK aV B0) y11_nodeOf b11_nodeOf 1 (some .int) 0 0 0 0 [.int x0] h (some (.int r.1)) r.2 := by
  refine ce_enter hA (by decide) rfl (Nat.le_of_ble_eq_true rfl) (fun p e0 s m below meth c ls C hH hl => ?_)
  have hl : lv_has ls 1 [(0, .int x0)] := hl
  have hx := C.1
  have hb := C.2.1
  have e : Option.bind _ some = some r := (congrArg (fun z => Option.bind z some) e).trans rfl
  unfold f11_nodeOf at e
  refine lv_iload_n hx hb d11_nodeOf_0 rfl (lv_at hl 0 rfl) ?_
  refine lv_iconst (v := (4 : Int32)) hx hb d11_nodeOf_1 (by decide) ?_
  refine lv_idiv hx hb d11_nodeOf_2 (by decide) ?_
  exact ce_iretE C (ce_sok aK aV B0) hH e d11_nodeOf_3
abbrev b11_portOf : ByteArray := prog_1_method_50_code
def y11_portOf : MethodName := ⟨cn_11, "portOf", "(I)I"⟩
theorem d11_portOf_0 : decode b11_portOf 0 = .ok (.iload_n 0, 1) := by decide +kernel
theorem d11_portOf_1 : decode b11_portOf 1 = .ok (.iconst 4, 1) := by decide +kernel
theorem d11_portOf_2 : decode b11_portOf 2 = .ok (.irem, 1) := by decide +kernel
theorem d11_portOf_3 : decode b11_portOf 3 = .ok (.ireturn, 1) := by decide +kernel
def f11_portOf (F : Nat) (x0 : Int32) (h : Hp) : Option (Int32 × Hp) :=
  some (x0 - x0 / (4 : Int32) * (4 : Int32), h)
set_option maxRecDepth 20000 in
theorem c11_portOf (l : Launch) (D : va_G) (ad : Nat → Nat) (cA : Nat → ClassId) (aK aV : Nat → Nat) (B0 : Nat) (hA : ce_Ad ad B0) (F : Nat) (x0 : Int32)  (h : Hp) (r : Int32 × Hp) (e : f11_portOf F x0 h = some r) : ce_Ct l D ad cA B0 (ce_St aK aV B0) y11_portOf b11_portOf 1 (some .int) 0 0 0 0 [.int x0] h (some (.int r.1)) r.2 := by
  refine ce_enter hA (by decide) rfl (Nat.le_of_ble_eq_true rfl) (fun p e0 s m below meth c ls C hH hl => ?_)
  have hl : lv_has ls 1 [(0, .int x0)] := hl
  have hx := C.1
  have hb := C.2.1
  have e : Option.bind _ some = some r := (congrArg (fun z => Option.bind z some) e).trans rfl
  unfold f11_portOf at e
  refine lv_iload_n hx hb d11_portOf_0 rfl (lv_at hl 0 rfl) ?_
  refine lv_iconst (v := (4 : Int32)) hx hb d11_portOf_1 (by decide) ?_
  refine lv_irem hx hb d11_portOf_2 (by decide) ?_
  exact ce_iretE C (ce_sok aK aV B0) hH e d11_portOf_3
abbrev b11_gapFor : ByteArray := prog_1_method_47_code
def y11_gapFor : MethodName := ⟨cn_11, "gapFor", "(I)I"⟩
theorem d11_gapFor_0 : decode b11_gapFor 0 = .ok (.iconst 2, 1) := by decide +kernel
theorem d11_gapFor_1 : decode b11_gapFor 1 = .ok (.iload_n 0, 1) := by decide +kernel
theorem d11_gapFor_2 : decode b11_gapFor 2 = .ok (.imul, 1) := by decide +kernel
theorem d11_gapFor_3 : decode b11_gapFor 3 = .ok (.iconst 5, 1) := by decide +kernel
theorem d11_gapFor_4 : decode b11_gapFor 4 = .ok (.iadd, 1) := by decide +kernel
theorem d11_gapFor_5 : decode b11_gapFor 5 = .ok (.bipush 7, 2) := by decide +kernel
theorem d11_gapFor_7 : decode b11_gapFor 7 = .ok (.iadd, 1) := by decide +kernel
theorem d11_gapFor_8 : decode b11_gapFor 8 = .ok (.bipush 8, 2) := by decide +kernel
theorem d11_gapFor_10 : decode b11_gapFor 10 = .ok (.idiv, 1) := by decide +kernel
theorem d11_gapFor_11 : decode b11_gapFor 11 = .ok (.ireturn, 1) := by decide +kernel
def f11_gapFor (F : Nat) (x0 : Int32) (h : Hp) : Option (Int32 × Hp) :=
  some (((((2 : Int32) * x0) + (5 : Int32)) + (7 : Int32)) / (8 : Int32), h)
set_option maxRecDepth 20000 in
theorem c11_gapFor (l : Launch) (D : va_G) (ad : Nat → Nat) (cA : Nat → ClassId) (aK aV : Nat → Nat) (B0 : Nat) (hA : ce_Ad ad B0) (F : Nat) (x0 : Int32)  (h : Hp) (r : Int32 × Hp) (e : f11_gapFor F x0 h = some r) : ce_Ct l D ad cA B0 (ce_St aK aV B0) y11_gapFor b11_gapFor 1 (some .int) 0 0 0 0 [.int x0] h (some (.int r.1)) r.2 := by
  refine ce_enter hA (by decide) rfl (Nat.le_of_ble_eq_true rfl) (fun p e0 s m below meth c ls C hH hl => ?_)
  have hl : lv_has ls 1 [(0, .int x0)] := hl
  have hx := C.1
  have hb := C.2.1
  have e : Option.bind _ some = some r := (congrArg (fun z => Option.bind z some) e).trans rfl
  unfold f11_gapFor at e
  refine lv_iconst (v := (2 : Int32)) hx hb d11_gapFor_0 (by decide) ?_
  refine lv_iload_n hx hb d11_gapFor_1 rfl (lv_at hl 0 rfl) ?_
  refine lv_imul hx hb d11_gapFor_2 ?_
  refine lv_iconst (v := (5 : Int32)) hx hb d11_gapFor_3 (by decide) ?_
  refine lv_iadd hx hb d11_gapFor_4 ?_
  refine lv_bipush (v := (7 : Int32)) hx hb d11_gapFor_5 (by decide) ?_
  refine lv_iadd hx hb d11_gapFor_7 ?_
  refine lv_bipush (v := (8 : Int32)) hx hb d11_gapFor_8 (by decide) ?_
  refine lv_idiv hx hb d11_gapFor_10 (by decide) ?_
  exact ce_iretE C (ce_sok aK aV B0) hH e d11_gapFor_11
abbrev b11_holds : ByteArray := prog_1_method_51_code
def y11_holds : MethodName := ⟨cn_11, "holds", "(II)Z"⟩
theorem d11_holds_0 : decode b11_holds 0 = .ok (.iload_n 0, 1) := by decide +kernel
theorem d11_holds_1 : decode b11_holds 1 = .ok (.iload_n 1, 1) := by decide +kernel
theorem d11_holds_2 : decode b11_holds 2 = .ok (.iushr, 1) := by decide +kernel
theorem d11_holds_3 : decode b11_holds 3 = .ok (.iconst 1, 1) := by decide +kernel
theorem d11_holds_4 : decode b11_holds 4 = .ok (.iand, 1) := by decide +kernel
theorem d11_holds_5 : decode b11_holds 5 = .ok (.iconst 1, 1) := by decide +kernel
theorem d11_holds_6 : decode b11_holds 6 = .ok (.if_icmp .ne 7, 3) := by decide +kernel
theorem d11_holds_9 : decode b11_holds 9 = .ok (.iconst 1, 1) := by decide +kernel
theorem d11_holds_10 : decode b11_holds 10 = .ok (.goto 4, 3) := by decide +kernel
theorem d11_holds_13 : decode b11_holds 13 = .ok (.iconst 0, 1) := by decide +kernel
theorem d11_holds_14 : decode b11_holds 14 = .ok (.ireturn, 1) := by decide +kernel
def f11_holds (F : Nat) (x0 : Int32) (x1 : Int32) (h : Hp) : Option (Int32 × Hp) :=
  if ((ce_ushr x0 x1) &&& (1 : Int32)) = (1 : Int32) then
    some ((1 : Int32), h)
  else
    some ((0 : Int32), h)
set_option maxRecDepth 20000 in
theorem c11_holds (l : Launch) (D : va_G) (ad : Nat → Nat) (cA : Nat → ClassId) (aK aV : Nat → Nat) (B0 : Nat) (hA : ce_Ad ad B0) (F : Nat) (x0 : Int32) (x1 : Int32)  (h : Hp) (r : Int32 × Hp) (e : f11_holds F x0 x1 h = some r) : ce_Ct l D ad cA B0 (ce_St aK aV B0) y11_holds b11_holds 2 (some .boolean) 0 0 0 0 [.int x0, .int x1] h (some (.int r.1)) r.2 := by
  refine ce_enter hA (by decide) rfl (Nat.le_of_ble_eq_true rfl) (fun p e0 s m below meth c ls C hH hl => ?_)
  have hl : lv_has ls 2 [(0, .int x0), (1, .int x1)] := hl
  have hx := C.1
  have hb := C.2.1
  have e : Option.bind _ some = some r := (congrArg (fun z => Option.bind z some) e).trans rfl
  unfold f11_holds at e
  refine lv_iload_n hx hb d11_holds_0 rfl (lv_at hl 0 rfl) ?_
  refine lv_iload_n hx hb d11_holds_1 rfl (lv_at hl 1 rfl) ?_
  refine lv_iushr (v := ce_ushr x0 x1) hx hb d11_holds_2 rfl ?_
  refine lv_iconst (v := (1 : Int32)) hx hb d11_holds_3 (by decide) ?_
  refine lv_iand hx hb d11_holds_4 ?_
  refine lv_iconst (v := (1 : Int32)) hx hb d11_holds_5 (by decide) ?_
  refine lv_icmp_ne (tgt := 13) hx hb d11_holds_6 (by decide) (fun hc6 => ?_) (fun hc6 => ?_)
  · have e := ce_if0 e hc6
    refine lv_iconst (v := (0 : Int32)) hx hb d11_holds_13 (by decide) ?_
    exact ce_zretE C (ce_sok aK aV B0) hH (Or.inl rfl) e d11_holds_14
  · have e := ce_if1 e hc6
    refine lv_iconst (v := (1 : Int32)) hx hb d11_holds_9 (by decide) ?_
    refine lv_goto (tgt := 14) hx hb d11_holds_10 (by decide) ?_
    exact ce_zretE C (ce_sok aK aV B0) hH (Or.inr rfl) e d11_holds_14
abbrev b11_leastIn : ByteArray := prog_1_method_52_code
def y11_leastIn : MethodName := ⟨cn_11, "leastIn", "(I)I"⟩
theorem d11_leastIn_0 : decode b11_leastIn 0 = .ok (.iconst 0, 1) := by decide +kernel
theorem d11_leastIn_1 : decode b11_leastIn 1 = .ok (.istore_n 1, 1) := by decide +kernel
theorem d11_leastIn_2 : decode b11_leastIn 2 = .ok (.iload_n 1, 1) := by decide +kernel
theorem d11_leastIn_3 : decode b11_leastIn 3 = .ok (.bipush 10, 2) := by decide +kernel
theorem d11_leastIn_5 : decode b11_leastIn 5 = .ok (.if_icmp .ge 19, 3) := by decide +kernel
theorem d11_leastIn_8 : decode b11_leastIn 8 = .ok (.iload_n 0, 1) := by decide +kernel
theorem d11_leastIn_9 : decode b11_leastIn 9 = .ok (.iload_n 1, 1) := by decide +kernel
theorem d11_leastIn_10 : decode b11_leastIn 10 = .ok (.invokestatic 337, 3) := by decide +kernel
theorem d11_leastIn_13 : decode b11_leastIn 13 = .ok (.ifCond .eq 5, 3) := by decide +kernel
theorem d11_leastIn_16 : decode b11_leastIn 16 = .ok (.iload_n 1, 1) := by decide +kernel
theorem d11_leastIn_17 : decode b11_leastIn 17 = .ok (.ireturn, 1) := by decide +kernel
theorem d11_leastIn_18 : decode b11_leastIn 18 = .ok (.iinc 1 1, 3) := by decide +kernel
theorem d11_leastIn_21 : decode b11_leastIn 21 = .ok (.goto (-19), 3) := by decide +kernel
theorem d11_leastIn_24 : decode b11_leastIn 24 = .ok (.iconst 0, 1) := by decide +kernel
theorem d11_leastIn_25 : decode b11_leastIn 25 = .ok (.ireturn, 1) := by decide +kernel
theorem mc11_holds : Cond.code y11_holds b11_holds 2 (some .boolean) ∈ ce_cm := ce_cm_of (List.mem_of_getElem? (i := 1014) (by decide +kernel)) (by decide +kernel)
theorem ml_11_337 : Cond.methodLink cn_11 337 y11_holds ∈ ce_cm := ce_cm_of (List.mem_of_getElem? (i := 1012) (by decide +kernel)) (by decide +kernel)
theorem mt11_holds : Cond.static y11_holds ∈ ce_cm := ce_cm_of (List.mem_of_getElem? (i := 1013) (by decide +kernel)) (by decide +kernel)
theorem mI_11 : Cond.initialized cn_11 ∈ ce_cm := ce_cm_of (List.mem_of_getElem? (i := 90) (by decide +kernel)) (by decide +kernel)
def f11_leastIn_b2 (F : Nat) (x0 : Int32) (x1 : Int32) (h : Hp) : Option ((Int32 × Hp) ⊕ ((Int32 × Hp) ⊕ (Hp))) :=
  if (10 : Int32) ≤ x1 then
    some (.inr (.inr h))
  else
    Option.bind (f11_holds F x0 x1 h) (fun o10 =>
      if o10.1 = 0 then
        some (.inl (x1 + (1 : Int32), o10.2))
      else
        some (.inr (.inl (x1, o10.2))))
set_option maxRecDepth 20000 in
theorem l11_leastIn_2 (C : ce_Cx p s m args c meth b11_leastIn 2 (some .int) cn_11 D ad cA B0 (ce_St aK aV B0)) (F : Nat) (x0 : Int32)  (r : Int32 × Hp) (g : ((Int32 × Hp) ⊕ (Hp)) → Option (Int32 × Hp)) (hx : ∀  (h : Hp) (H : Heap) (locs : List Loc) (ls : Array Slot), ce_H D ad cA B0 [] s h H locs → lv_has ls 2 [] → g (.inr h) = some r → W p l e0 { frames := 1, cells := 0, slots := 0, locals := 21 } s m args below meth c H locs 0 0 (MQ below (ce_Q D ad cA B0 (ce_St aK aV B0) (some (.int r.1)) r.2) args s 0 0 (fun q => B0 ≤ q)) (F0 m 24 ls [])) (he : ∀ z, g (.inl z) = some z) : ∀ (n : Nat) (x1 : Int32) (h : Hp) (H : Heap) (locs : List Loc) (ls : Array Slot), ce_H D ad cA B0 [] s h H locs → lv_has ls 2 [(0, .int x0), (1, .int x1)] → Option.bind (ce_it (fun (st : Int32 × Hp) => f11_leastIn_b2 F x0 st.1 st.2) n (x1, h)) g = some r → W p l e0 { frames := 1, cells := 0, slots := 0, locals := 21 } s m args below meth c H locs 0 0 (MQ below (ce_Q D ad cA B0 (ce_St aK aV B0) (some (.int r.1)) r.2) args s 0 0 (fun q => B0 ≤ q)) (F0 m 2 ls []) := by
  intro n
  induction n with
  | zero =>
    intro x1 h H locs ls hH hl e
    exact absurd e (fun z => by cases z)
  | succ n ih =>
    intro x1 h H locs ls hH hl e
    have hx9 := C.1
    have hb := C.2.1
    have e : Option.bind (f11_leastIn_b2 F x0 x1 h) _ = some r := ce_it_bd e
    unfold f11_leastIn_b2 at e
    refine lv_iload_n hx9 hb d11_leastIn_2 rfl (lv_at hl 1 rfl) ?_
    refine lv_bipush (v := (10 : Int32)) hx9 hb d11_leastIn_3 (by decide) ?_
    refine lv_icmp_ge (tgt := 24) hx9 hb d11_leastIn_5 (by decide) (fun hc5 => ?_) (fun hc5 => ?_)
    · have e := ce_if1 e hc5
      exact hx  h _ _ _ hH (lv_sub hl [] rfl) e
    · have e := ce_if0 e hc5
      refine lv_iload_n hx9 hb d11_leastIn_8 rfl (lv_at hl 0 rfl) ?_
      refine lv_iload_n hx9 hb d11_leastIn_9 rfl (lv_at hl 1 rfl) ?_
      obtain ⟨o10, eo10, e⟩ := ce_bd e
      refine ce_callS (As := [.int x0, .int x1]) (rest := []) C (ce_sok aK aV B0) hH (c11_holds l D ad cA aK aV B0 C.2.2.2.2.2.2.1 F x0 x1  h o10 eo10) mc11_holds ml_11_337 mt11_holds mI_11 (n := 2) (by decide) rfl ⟨Nat.le_of_ble_eq_true rfl, Nat.le_of_ble_eq_true rfl⟩ ⟨Nat.le_of_ble_eq_true rfl, Nat.le_of_ble_eq_true rfl⟩ hl.1 rfl (Nat.le_of_ble_eq_true rfl) d11_leastIn_10 (fun H locs hH => ?_)
      refine W.eq (g2 := F0 m 13 ls [.int o10.1]) rfl ?_
      refine lv_if_eq (tgt := 18) hx9 hb d11_leastIn_13 (by decide) (fun hc13 => ?_) (fun hc13 => ?_)
      · have e := ce_if1 e hc13
        refine lv_iinc (v := x1 + (1 : Int32)) (lv' := [(1, .int (x1 + (1 : Int32))), (0, .int x0)]) hx9 hb d11_leastIn_18 hl (k := 1) rfl rfl (by decide) rfl (fun ls hl => ?_)
        refine lv_goto (tgt := 2) hx9 hb d11_leastIn_21 (by decide) ?_
        exact ih (x1 + (1 : Int32)) o10.2 _ _ _ hH (lv_sub hl [1, 0] rfl) e
      · have e := ce_if0 e hc13
        refine lv_iload_n hx9 hb d11_leastIn_16 rfl (lv_at hl 1 rfl) ?_
        have e := (he _).symm.trans e
        exact ce_iretE C (ce_sok aK aV B0) hH e d11_leastIn_17
def f11_leastIn (F : Nat) (x0 : Int32) (h : Hp) : Option (Int32 × Hp) :=
  Option.bind (ce_it (fun (st : Int32 × Hp) => f11_leastIn_b2 F x0 st.1 st.2) F ((0 : Int32), h)) (fun o2w => match o2w with
    | .inl z => some z
    | .inr o2 =>
      some ((0 : Int32), o2))
set_option maxRecDepth 20000 in
theorem c11_leastIn (l : Launch) (D : va_G) (ad : Nat → Nat) (cA : Nat → ClassId) (aK aV : Nat → Nat) (B0 : Nat) (hA : ce_Ad ad B0) (F : Nat) (x0 : Int32)  (h : Hp) (r : Int32 × Hp) (e : f11_leastIn F x0 h = some r) : ce_Ct l D ad cA B0 (ce_St aK aV B0) y11_leastIn b11_leastIn 2 (some .int) 1 21 0 0 [.int x0] h (some (.int r.1)) r.2 := by
  refine ce_enter hA (by decide) rfl (Nat.le_of_ble_eq_true rfl) (fun p e0 s m below meth c ls C hH hl => ?_)
  have hl : lv_has ls 2 [(0, .int x0)] := hl
  have hx := C.1
  have hb := C.2.1
  have e : Option.bind _ some = some r := (congrArg (fun z => Option.bind z some) e).trans rfl
  unfold f11_leastIn at e
  refine lv_iconst (v := (0 : Int32)) hx hb d11_leastIn_0 (by decide) ?_
  refine lv_istore_n (lv' := [(1, .int (0 : Int32)), (0, .int x0)]) hx hb d11_leastIn_1 rfl hl (by decide) rfl (fun ls hl => ?_)
  refine l11_leastIn_2 C F x0  r _ (fun  h_2 H locs ls hH hl e => ?_) (fun z => rfl) F (0 : Int32) h _ _ _ hH (lv_sub hl [1, 0] rfl) (ce_as e)
  try dsimp only at e
  refine lv_iconst (v := (0 : Int32)) hx hb d11_leastIn_24 (by decide) ?_
  exact ce_iretE C (ce_sok aK aV B0) hH e d11_leastIn_25
abbrev b11_without : ByteArray := prog_1_method_53_code
def y11_without : MethodName := ⟨cn_11, "without", "(II)I"⟩
theorem d11_without_0 : decode b11_without 0 = .ok (.iload_n 0, 1) := by decide +kernel
theorem d11_without_1 : decode b11_without 1 = .ok (.iconst 1, 1) := by decide +kernel
theorem d11_without_2 : decode b11_without 2 = .ok (.iload_n 1, 1) := by decide +kernel
theorem d11_without_3 : decode b11_without 3 = .ok (.ishl, 1) := by decide +kernel
theorem d11_without_4 : decode b11_without 4 = .ok (.iconst (-1), 1) := by decide +kernel
theorem d11_without_5 : decode b11_without 5 = .ok (.ixor, 1) := by decide +kernel
theorem d11_without_6 : decode b11_without 6 = .ok (.iand, 1) := by decide +kernel
theorem d11_without_7 : decode b11_without 7 = .ok (.ireturn, 1) := by decide +kernel
def f11_without (F : Nat) (x0 : Int32) (x1 : Int32) (h : Hp) : Option (Int32 × Hp) :=
  some (x0 &&& (((1 : Int32) <<< (x1 &&& 31)) ^^^ (-1 : Int32)), h)
set_option maxRecDepth 20000 in
theorem c11_without (l : Launch) (D : va_G) (ad : Nat → Nat) (cA : Nat → ClassId) (aK aV : Nat → Nat) (B0 : Nat) (hA : ce_Ad ad B0) (F : Nat) (x0 : Int32) (x1 : Int32)  (h : Hp) (r : Int32 × Hp) (e : f11_without F x0 x1 h = some r) : ce_Ct l D ad cA B0 (ce_St aK aV B0) y11_without b11_without 2 (some .int) 0 0 0 0 [.int x0, .int x1] h (some (.int r.1)) r.2 := by
  refine ce_enter hA (by decide) rfl (Nat.le_of_ble_eq_true rfl) (fun p e0 s m below meth c ls C hH hl => ?_)
  have hl : lv_has ls 2 [(0, .int x0), (1, .int x1)] := hl
  have hx := C.1
  have hb := C.2.1
  have e : Option.bind _ some = some r := (congrArg (fun z => Option.bind z some) e).trans rfl
  unfold f11_without at e
  refine lv_iload_n hx hb d11_without_0 rfl (lv_at hl 0 rfl) ?_
  refine lv_iconst (v := (1 : Int32)) hx hb d11_without_1 (by decide) ?_
  refine lv_iload_n hx hb d11_without_2 rfl (lv_at hl 1 rfl) ?_
  refine lv_ishl hx hb d11_without_3 ?_
  refine lv_iconst (v := (-1 : Int32)) hx hb d11_without_4 (by decide) ?_
  refine lv_ixor hx hb d11_without_5 ?_
  refine lv_iand hx hb d11_without_6 ?_
  exact ce_iretE C (ce_sok aK aV B0) hH e d11_without_7
abbrev b5_hasNode : ByteArray := prog_7_method_4_code
def y5_hasNode : MethodName := ⟨cn_5, "hasNode", "(I)Z"⟩
theorem d5_hasNode_0 : decode b5_hasNode 0 = .ok (.iload_n 1, 1) := by decide +kernel
theorem d5_hasNode_1 : decode b5_hasNode 1 = .ok (.ifCond .lt 15, 3) := by decide +kernel
theorem d5_hasNode_4 : decode b5_hasNode 4 = .ok (.iload_n 1, 1) := by decide +kernel
theorem d5_hasNode_5 : decode b5_hasNode 5 = .ok (.aload_n 0, 1) := by decide +kernel
theorem d5_hasNode_6 : decode b5_hasNode 6 = .ok (.getfield 21, 3) := by decide +kernel
theorem d5_hasNode_9 : decode b5_hasNode 9 = .ok (.if_icmp .ge 7, 3) := by decide +kernel
theorem d5_hasNode_12 : decode b5_hasNode 12 = .ok (.iconst 1, 1) := by decide +kernel
theorem d5_hasNode_13 : decode b5_hasNode 13 = .ok (.goto 4, 3) := by decide +kernel
theorem d5_hasNode_16 : decode b5_hasNode 16 = .ok (.iconst 0, 1) := by decide +kernel
theorem d5_hasNode_17 : decode b5_hasNode 17 = .ok (.ireturn, 1) := by decide +kernel
theorem fl_5_21 : Cond.fieldLink cn_5 21 (ft_5 3).1 (ft_5 3).2.1 (ft_5 3).2.2.1 ∈ ce_cm := ce_cm_of (List.mem_of_getElem? (i := 204) (by decide +kernel)) (by decide +kernel)
theorem gf_5_21 (C : ce_Cx p s m args c meth cc nL ret cn_5 D ad cA B0 (ce_St aK aV B0)) (hH : ce_H D ad cA B0 X s h H locs) {k : Nat} (hk : ce_isNet k) (hdg : decode cc pc = .ok (.getfield 21, 3)) (kk : W p l e0 R s m args below meth c H locs cells slots Q (F0 m (pc + 3) ls (.int (h k 3) :: rest))) : W p l e0 R s m args below meth c H locs cells slots Q (F0 m pc ls (.ref (ad k) :: rest)) := by
  rcases hk with rfl | rfl
  · exact ce_get C hH (k := 7) (ci := 5) (j := 3) (N := 11) (sj := none) (by decide) rfl rfl fw_5 (by decide) fl_5_21 rfl hdg kk
  · exact ce_get C hH (k := 14) (ci := 5) (j := 3) (N := 11) (sj := none) (by decide) rfl rfl fw_5 (by decide) fl_5_21 rfl hdg kk
theorem pf_5_21 (C : ce_Cx p s m args c meth cc nL ret cn_5 D ad cA B0 (ce_St aK aV B0)) (hH : ce_H D ad cA B0 X s h H locs) {k : Nat} (hk : ce_isNet k) {x : Int32} (hdg : decode cc pc = .ok (.putfield 21, 3)) (kk : ∀ (H1 : Heap) (locs1 : List Loc), ce_H D ad cA B0 X s (hp_up h k 3 x) H1 locs1 → W p l e0 R s m args below meth c H1 locs1 cells slots Q (F0 m (pc + 3) ls rest)) : W p l e0 R s m args below meth c H locs cells slots Q (F0 m pc ls (.int x :: .ref (ad k) :: rest)) := by
  rcases hk with rfl | rfl
  · exact ce_put C hH (k := 7) (ci := 5) (j := 3) (N := 11) (fy := fy_5) (sj := none) x (by decide) rfl rfl fw_5 fo_5 fn_5 (by decide) fl_5_21 rfl rfl (v := .int x) (by simp [ce_slot, upd]) rfl rfl hdg kk
  · exact ce_put C hH (k := 14) (ci := 5) (j := 3) (N := 11) (fy := fy_5) (sj := none) x (by decide) rfl rfl fw_5 fo_5 fn_5 (by decide) fl_5_21 rfl rfl (v := .int x) (by simp [ce_slot, upd]) rfl rfl hdg kk
def f5_hasNode (F : Nat) (k0 : Nat) (x1 : Int32) (h : Hp) : Option (Int32 × Hp) :=
  if x1 < 0 then
    some ((0 : Int32), h)
  else
    if (h k0 3) ≤ x1 then
      some ((0 : Int32), h)
    else
      some ((1 : Int32), h)
set_option maxRecDepth 20000 in
theorem c5_hasNode (l : Launch) (D : va_G) (ad : Nat → Nat) (cA : Nat → ClassId) (aK aV : Nat → Nat) (B0 : Nat) (hA : ce_Ad ad B0) (F : Nat) (k0 : Nat) (x1 : Int32) (hk0 : ce_isNet k0) (h : Hp) (r : Int32 × Hp) (e : f5_hasNode F k0 x1 h = some r) : ce_Ct l D ad cA B0 (ce_St aK aV B0) y5_hasNode b5_hasNode 2 (some .boolean) 0 0 0 0 [.ref (ad k0), .int x1] h (some (.int r.1)) r.2 := by
  refine ce_enter hA (by decide) rfl (Nat.le_of_ble_eq_true rfl) (fun p e0 s m below meth c ls C hH hl => ?_)
  have hl : lv_has ls 2 [(0, .ref (ad k0)), (1, .int x1)] := hl
  have hx := C.1
  have hb := C.2.1
  have e : Option.bind _ some = some r := (congrArg (fun z => Option.bind z some) e).trans rfl
  unfold f5_hasNode at e
  refine lv_iload_n hx hb d5_hasNode_0 rfl (lv_at hl 1 rfl) ?_
  refine lv_if_lt (tgt := 16) hx hb d5_hasNode_1 (by decide) (fun hc1 => ?_) (fun hc1 => ?_)
  · have e := ce_if1 e hc1
    refine lv_iconst (v := (0 : Int32)) hx hb d5_hasNode_16 (by decide) ?_
    exact ce_zretE C (ce_sok aK aV B0) hH (Or.inl rfl) e d5_hasNode_17
  · have e := ce_if0 e hc1
    refine lv_iload_n hx hb d5_hasNode_4 rfl (lv_at hl 1 rfl) ?_
    refine lv_aload_n hx hb d5_hasNode_5 rfl (lv_at hl 0 rfl) ?_
    refine gf_5_21 C hH hk0 d5_hasNode_6 ?_
    refine lv_icmp_ge (tgt := 16) hx hb d5_hasNode_9 (by decide) (fun hc9 => ?_) (fun hc9 => ?_)
    · have e := ce_if1 e hc9
      refine lv_iconst (v := (0 : Int32)) hx hb d5_hasNode_16 (by decide) ?_
      exact ce_zretE C (ce_sok aK aV B0) hH (Or.inl rfl) e d5_hasNode_17
    · have e := ce_if0 e hc9
      refine lv_iconst (v := (1 : Int32)) hx hb d5_hasNode_12 (by decide) ?_
      refine lv_goto (tgt := 17) hx hb d5_hasNode_13 (by decide) ?_
      exact ce_zretE C (ce_sok aK aV B0) hH (Or.inr rfl) e d5_hasNode_17
abbrev b5_hasPort : ByteArray := prog_7_method_5_code
def y5_hasPort : MethodName := ⟨cn_5, "hasPort", "(II)Z"⟩
theorem d5_hasPort_0 : decode b5_hasPort 0 = .ok (.aload_n 0, 1) := by decide +kernel
theorem d5_hasPort_1 : decode b5_hasPort 1 = .ok (.iload_n 1, 1) := by decide +kernel
theorem d5_hasPort_2 : decode b5_hasPort 2 = .ok (.invokevirtual 53, 3) := by decide +kernel
theorem d5_hasPort_5 : decode b5_hasPort 5 = .ok (.ifCond .eq 21, 3) := by decide +kernel
theorem d5_hasPort_8 : decode b5_hasPort 8 = .ok (.iload_n 2, 1) := by decide +kernel
theorem d5_hasPort_9 : decode b5_hasPort 9 = .ok (.ifCond .lt 17, 3) := by decide +kernel
theorem d5_hasPort_12 : decode b5_hasPort 12 = .ok (.iload_n 2, 1) := by decide +kernel
theorem d5_hasPort_13 : decode b5_hasPort 13 = .ok (.aload_n 0, 1) := by decide +kernel
theorem d5_hasPort_14 : decode b5_hasPort 14 = .ok (.getfield 27, 3) := by decide +kernel
theorem d5_hasPort_17 : decode b5_hasPort 17 = .ok (.iload_n 1, 1) := by decide +kernel
theorem d5_hasPort_18 : decode b5_hasPort 18 = .ok (.iaload, 1) := by decide +kernel
theorem d5_hasPort_19 : decode b5_hasPort 19 = .ok (.if_icmp .ge 7, 3) := by decide +kernel
theorem d5_hasPort_22 : decode b5_hasPort 22 = .ok (.iconst 1, 1) := by decide +kernel
theorem d5_hasPort_23 : decode b5_hasPort 23 = .ok (.goto 4, 3) := by decide +kernel
theorem d5_hasPort_26 : decode b5_hasPort 26 = .ok (.iconst 0, 1) := by decide +kernel
theorem d5_hasPort_27 : decode b5_hasPort 27 = .ok (.ireturn, 1) := by decide +kernel
theorem fl_5_27 : Cond.fieldLink cn_5 27 (ft_5 5).1 (ft_5 5).2.1 (ft_5 5).2.2.1 ∈ ce_cm := ce_cm_of (List.mem_of_getElem? (i := 213) (by decide +kernel)) (by decide +kernel)
theorem gf_5_27 (C : ce_Cx p s m args c meth cc nL ret cn_5 D ad cA B0 (ce_St aK aV B0)) (hH : ce_H D ad cA B0 X s h H locs) {k : Nat} (hk : ce_isNet k) (hdg : decode cc pc = .ok (.getfield 27, 3)) (kk : W p l e0 R s m args below meth c H locs cells slots Q (F0 m (pc + 3) ls (.ref (ad (k + 1)) :: rest))) : W p l e0 R s m args below meth c H locs cells slots Q (F0 m pc ls (.ref (ad k) :: rest)) := by
  rcases hk with rfl | rfl
  · exact ce_get C hH (k := 7) (ci := 5) (j := 5) (N := 11) (sj := some (some 8)) (by decide) rfl rfl fw_5 (by decide) fl_5_27 rfl hdg kk
  · exact ce_get C hH (k := 14) (ci := 5) (j := 5) (N := 11) (sj := some (some 15)) (by decide) rfl rfl fw_5 (by decide) fl_5_27 rfl hdg kk
theorem la_Net_1 {k : Nat} (hk : ce_isNet k) : k + 1 < 96 ∧ ce_lay (k + 1) = .inl (0, 10) := by rcases hk with rfl | rfl <;> exact ⟨by decide, rfl⟩
theorem lk_Net {k : Nat} (hk : ce_isNet k) : k < 96 ∧ ∃ sl, ce_lay k = .inr (5, sl) := by rcases hk with rfl | rfl <;> exact ⟨by decide, _, rfl⟩
theorem mc5_hasNode : Cond.code y5_hasNode b5_hasNode 2 (some .boolean) ∈ ce_cm := ce_cm_of (List.mem_of_getElem? (i := 660) (by decide +kernel)) (by decide +kernel)
theorem ml_5_53 : Cond.methodLink cn_5 53 y5_hasNode ∈ ce_cm := ce_cm_of (List.mem_of_getElem? (i := 670) (by decide +kernel)) (by decide +kernel)
theorem mi5_hasNode : Cond.instanceMethod y5_hasNode ∈ ce_cm := ce_cm_of (List.mem_of_getElem? (i := 658) (by decide +kernel)) (by decide +kernel)
theorem ms5_hasNode : Cond.selects cn_5 y5_hasNode y5_hasNode ∈ ce_cm := ce_cm_of (List.mem_of_getElem? (i := 659) (by decide +kernel)) (by decide +kernel)
theorem mI_5 : Cond.initialized cn_5 ∈ ce_cm := ce_cm_of (List.mem_of_getElem? (i := 94) (by decide +kernel)) (by decide +kernel)
def f5_hasPort (F : Nat) (k0 : Nat) (x1 : Int32) (x2 : Int32) (h : Hp) : Option (Int32 × Hp) :=
  Option.bind (f5_hasNode F k0 x1 h) (fun o2 =>
    if o2.1 = 0 then
      some ((0 : Int32), o2.2)
    else
      if x2 < 0 then
        some ((0 : Int32), o2.2)
      else
        if ce_in x1 10 = true then
          if (o2.2 (k0 + 1) (x1).toNatClampNeg) ≤ x2 then
            some ((0 : Int32), o2.2)
          else
            some ((1 : Int32), o2.2)
        else none)
set_option maxRecDepth 20000 in
theorem c5_hasPort (l : Launch) (D : va_G) (ad : Nat → Nat) (cA : Nat → ClassId) (aK aV : Nat → Nat) (B0 : Nat) (hA : ce_Ad ad B0) (F : Nat) (k0 : Nat) (x1 : Int32) (x2 : Int32) (hk0 : ce_isNet k0) (h : Hp) (r : Int32 × Hp) (e : f5_hasPort F k0 x1 x2 h = some r) : ce_Ct l D ad cA B0 (ce_St aK aV B0) y5_hasPort b5_hasPort 3 (some .boolean) 1 21 0 0 [.ref (ad k0), .int x1, .int x2] h (some (.int r.1)) r.2 := by
  refine ce_enter hA (by decide) rfl (Nat.le_of_ble_eq_true rfl) (fun p e0 s m below meth c ls C hH hl => ?_)
  have hl : lv_has ls 3 [(0, .ref (ad k0)), (1, .int x1), (2, .int x2)] := hl
  have hx := C.1
  have hb := C.2.1
  have e : Option.bind _ some = some r := (congrArg (fun z => Option.bind z some) e).trans rfl
  unfold f5_hasPort at e
  refine lv_aload_n hx hb d5_hasPort_0 rfl (lv_at hl 0 rfl) ?_
  refine lv_iload_n hx hb d5_hasPort_1 rfl (lv_at hl 1 rfl) ?_
  obtain ⟨o2, eo2, e⟩ := ce_bd e
  refine ce_callV (As := [.int x1]) (rest := []) C (ce_sok aK aV B0) hH (c5_hasNode l D ad cA aK aV B0 C.2.2.2.2.2.2.1 F k0 x1 hk0 h o2 eo2) (lk_Net hk0).1 (lk_Net hk0).2.choose_spec rfl rfl mc5_hasNode ml_5_53 mi5_hasNode ms5_hasNode mI_5 (n := 1) (by decide) rfl ⟨Nat.le_of_ble_eq_true rfl, Nat.le_of_ble_eq_true rfl⟩ ⟨Nat.le_of_ble_eq_true rfl, Nat.le_of_ble_eq_true rfl⟩ hl.1 rfl (Nat.le_of_ble_eq_true rfl) d5_hasPort_2 (fun H locs hH => ?_)
  refine W.eq (g2 := F0 m 5 ls [.int o2.1]) rfl ?_
  refine lv_if_eq (tgt := 26) hx hb d5_hasPort_5 (by decide) (fun hc5 => ?_) (fun hc5 => ?_)
  · have e := ce_if1 e hc5
    refine lv_iconst (v := (0 : Int32)) hx hb d5_hasPort_26 (by decide) ?_
    exact ce_zretE C (ce_sok aK aV B0) hH (Or.inl rfl) e d5_hasPort_27
  · have e := ce_if0 e hc5
    refine lv_iload_n hx hb d5_hasPort_8 rfl (lv_at hl 2 rfl) ?_
    refine lv_if_lt (tgt := 26) hx hb d5_hasPort_9 (by decide) (fun hc9 => ?_) (fun hc9 => ?_)
    · have e := ce_if1 e hc9
      refine lv_iconst (v := (0 : Int32)) hx hb d5_hasPort_26 (by decide) ?_
      exact ce_zretE C (ce_sok aK aV B0) hH (Or.inl rfl) e d5_hasPort_27
    · have e := ce_if0 e hc9
      refine lv_iload_n hx hb d5_hasPort_12 rfl (lv_at hl 2 rfl) ?_
      refine lv_aload_n hx hb d5_hasPort_13 rfl (lv_at hl 0 rfl) ?_
      refine gf_5_27 C hH hk0 d5_hasPort_14 ?_
      refine lv_iload_n hx hb d5_hasPort_17 rfl (lv_at hl 1 rfl) ?_
      obtain ⟨hi18, e⟩ := ce_gd e
      refine ce_iald C hH (la_Net_1 hk0).1 (la_Net_1 hk0).2 (ce_in_vp hi18) d5_hasPort_18 ?_
      refine lv_icmp_ge (tgt := 26) hx hb d5_hasPort_19 (by decide) (fun hc19 => ?_) (fun hc19 => ?_)
      · have e := ce_if1 e hc19
        refine lv_iconst (v := (0 : Int32)) hx hb d5_hasPort_26 (by decide) ?_
        exact ce_zretE C (ce_sok aK aV B0) hH (Or.inl rfl) e d5_hasPort_27
      · have e := ce_if0 e hc19
        refine lv_iconst (v := (1 : Int32)) hx hb d5_hasPort_22 (by decide) ?_
        refine lv_goto (tgt := 27) hx hb d5_hasPort_23 (by decide) ?_
        exact ce_zretE C (ce_sok aK aV B0) hH (Or.inr rfl) e d5_hasPort_27
abbrev b5_isCabled : ByteArray := prog_7_method_7_code
def y5_isCabled : MethodName := ⟨cn_5, "isCabled", "(I)Z"⟩
theorem d5_isCabled_0 : decode b5_isCabled 0 = .ok (.iload_n 1, 1) := by decide +kernel
theorem d5_isCabled_1 : decode b5_isCabled 1 = .ok (.ifCond .lt 23, 3) := by decide +kernel
theorem d5_isCabled_4 : decode b5_isCabled 4 = .ok (.iload_n 1, 1) := by decide +kernel
theorem d5_isCabled_5 : decode b5_isCabled 5 = .ok (.bipush 40, 2) := by decide +kernel
theorem d5_isCabled_7 : decode b5_isCabled 7 = .ok (.if_icmp .ge 17, 3) := by decide +kernel
theorem d5_isCabled_10 : decode b5_isCabled 10 = .ok (.aload_n 0, 1) := by decide +kernel
theorem d5_isCabled_11 : decode b5_isCabled 11 = .ok (.getfield 41, 3) := by decide +kernel
theorem d5_isCabled_14 : decode b5_isCabled 14 = .ok (.iload_n 1, 1) := by decide +kernel
theorem d5_isCabled_15 : decode b5_isCabled 15 = .ok (.iaload, 1) := by decide +kernel
theorem d5_isCabled_16 : decode b5_isCabled 16 = .ok (.iconst (-1), 1) := by decide +kernel
theorem d5_isCabled_17 : decode b5_isCabled 17 = .ok (.if_icmp .eq 7, 3) := by decide +kernel
theorem d5_isCabled_20 : decode b5_isCabled 20 = .ok (.iconst 1, 1) := by decide +kernel
theorem d5_isCabled_21 : decode b5_isCabled 21 = .ok (.goto 4, 3) := by decide +kernel
theorem d5_isCabled_24 : decode b5_isCabled 24 = .ok (.iconst 0, 1) := by decide +kernel
theorem d5_isCabled_25 : decode b5_isCabled 25 = .ok (.ireturn, 1) := by decide +kernel
theorem fl_5_41 : Cond.fieldLink cn_5 41 (ft_5 9).1 (ft_5 9).2.1 (ft_5 9).2.2.1 ∈ ce_cm := ce_cm_of (List.mem_of_getElem? (i := 229) (by decide +kernel)) (by decide +kernel)
theorem gf_5_41 (C : ce_Cx p s m args c meth cc nL ret cn_5 D ad cA B0 (ce_St aK aV B0)) (hH : ce_H D ad cA B0 X s h H locs) {k : Nat} (hk : ce_isNet k) (hdg : decode cc pc = .ok (.getfield 41, 3)) (kk : W p l e0 R s m args below meth c H locs cells slots Q (F0 m (pc + 3) ls (.ref (ad (k + 5)) :: rest))) : W p l e0 R s m args below meth c H locs cells slots Q (F0 m pc ls (.ref (ad k) :: rest)) := by
  rcases hk with rfl | rfl
  · exact ce_get C hH (k := 7) (ci := 5) (j := 9) (N := 11) (sj := some (some 12)) (by decide) rfl rfl fw_5 (by decide) fl_5_41 rfl hdg kk
  · exact ce_get C hH (k := 14) (ci := 5) (j := 9) (N := 11) (sj := some (some 19)) (by decide) rfl rfl fw_5 (by decide) fl_5_41 rfl hdg kk
theorem la_Net_5 {k : Nat} (hk : ce_isNet k) : k + 5 < 96 ∧ ce_lay (k + 5) = .inl (0, 40) := by rcases hk with rfl | rfl <;> exact ⟨by decide, rfl⟩
def f5_isCabled (F : Nat) (k0 : Nat) (x1 : Int32) (h : Hp) : Option (Int32 × Hp) :=
  if x1 < 0 then
    some ((0 : Int32), h)
  else
    if (40 : Int32) ≤ x1 then
      some ((0 : Int32), h)
    else
      if ce_in x1 40 = true then
        if (h (k0 + 5) (x1).toNatClampNeg) = (-1 : Int32) then
          some ((0 : Int32), h)
        else
          some ((1 : Int32), h)
      else none
set_option maxRecDepth 20000 in
theorem c5_isCabled (l : Launch) (D : va_G) (ad : Nat → Nat) (cA : Nat → ClassId) (aK aV : Nat → Nat) (B0 : Nat) (hA : ce_Ad ad B0) (F : Nat) (k0 : Nat) (x1 : Int32) (hk0 : ce_isNet k0) (h : Hp) (r : Int32 × Hp) (e : f5_isCabled F k0 x1 h = some r) : ce_Ct l D ad cA B0 (ce_St aK aV B0) y5_isCabled b5_isCabled 2 (some .boolean) 0 0 0 0 [.ref (ad k0), .int x1] h (some (.int r.1)) r.2 := by
  refine ce_enter hA (by decide) rfl (Nat.le_of_ble_eq_true rfl) (fun p e0 s m below meth c ls C hH hl => ?_)
  have hl : lv_has ls 2 [(0, .ref (ad k0)), (1, .int x1)] := hl
  have hx := C.1
  have hb := C.2.1
  have e : Option.bind _ some = some r := (congrArg (fun z => Option.bind z some) e).trans rfl
  unfold f5_isCabled at e
  refine lv_iload_n hx hb d5_isCabled_0 rfl (lv_at hl 1 rfl) ?_
  refine lv_if_lt (tgt := 24) hx hb d5_isCabled_1 (by decide) (fun hc1 => ?_) (fun hc1 => ?_)
  · have e := ce_if1 e hc1
    refine lv_iconst (v := (0 : Int32)) hx hb d5_isCabled_24 (by decide) ?_
    exact ce_zretE C (ce_sok aK aV B0) hH (Or.inl rfl) e d5_isCabled_25
  · have e := ce_if0 e hc1
    refine lv_iload_n hx hb d5_isCabled_4 rfl (lv_at hl 1 rfl) ?_
    refine lv_bipush (v := (40 : Int32)) hx hb d5_isCabled_5 (by decide) ?_
    refine lv_icmp_ge (tgt := 24) hx hb d5_isCabled_7 (by decide) (fun hc7 => ?_) (fun hc7 => ?_)
    · have e := ce_if1 e hc7
      refine lv_iconst (v := (0 : Int32)) hx hb d5_isCabled_24 (by decide) ?_
      exact ce_zretE C (ce_sok aK aV B0) hH (Or.inl rfl) e d5_isCabled_25
    · have e := ce_if0 e hc7
      refine lv_aload_n hx hb d5_isCabled_10 rfl (lv_at hl 0 rfl) ?_
      refine gf_5_41 C hH hk0 d5_isCabled_11 ?_
      refine lv_iload_n hx hb d5_isCabled_14 rfl (lv_at hl 1 rfl) ?_
      obtain ⟨hi15, e⟩ := ce_gd e
      refine ce_iald C hH (la_Net_5 hk0).1 (la_Net_5 hk0).2 (ce_in_vp hi15) d5_isCabled_15 ?_
      refine lv_iconst (v := (-1 : Int32)) hx hb d5_isCabled_16 (by decide) ?_
      refine lv_icmp_eq (tgt := 24) hx hb d5_isCabled_17 (by decide) (fun hc17 => ?_) (fun hc17 => ?_)
      · have e := ce_if1 e hc17
        refine lv_iconst (v := (0 : Int32)) hx hb d5_isCabled_24 (by decide) ?_
        exact ce_zretE C (ce_sok aK aV B0) hH (Or.inl rfl) e d5_isCabled_25
      · have e := ce_if0 e hc17
        refine lv_iconst (v := (1 : Int32)) hx hb d5_isCabled_20 (by decide) ?_
        refine lv_goto (tgt := 25) hx hb d5_isCabled_21 (by decide) ?_
        exact ce_zretE C (ce_sok aK aV B0) hH (Or.inr rfl) e d5_isCabled_25
abbrev b5_isPortTaken : ByteArray := prog_7_method_6_code
def y5_isPortTaken : MethodName := ⟨cn_5, "isPortTaken", "(II)Z"⟩
theorem d5_isPortTaken_0 : decode b5_isPortTaken 0 = .ok (.aload_n 0, 1) := by decide +kernel
theorem d5_isPortTaken_1 : decode b5_isPortTaken 1 = .ok (.iload_n 1, 1) := by decide +kernel
theorem d5_isPortTaken_2 : decode b5_isPortTaken 2 = .ok (.iload_n 2, 1) := by decide +kernel
theorem d5_isPortTaken_3 : decode b5_isPortTaken 3 = .ok (.invokevirtual 57, 3) := by decide +kernel
theorem d5_isPortTaken_6 : decode b5_isPortTaken 6 = .ok (.ifCond .eq 19, 3) := by decide +kernel
theorem d5_isPortTaken_9 : decode b5_isPortTaken 9 = .ok (.aload_n 0, 1) := by decide +kernel
theorem d5_isPortTaken_10 : decode b5_isPortTaken 10 = .ok (.iload_n 1, 1) := by decide +kernel
theorem d5_isPortTaken_11 : decode b5_isPortTaken 11 = .ok (.iload_n 2, 1) := by decide +kernel
theorem d5_isPortTaken_12 : decode b5_isPortTaken 12 = .ok (.invokestatic 61, 3) := by decide +kernel
theorem d5_isPortTaken_15 : decode b5_isPortTaken 15 = .ok (.invokevirtual 65, 3) := by decide +kernel
theorem d5_isPortTaken_18 : decode b5_isPortTaken 18 = .ok (.ifCond .eq 7, 3) := by decide +kernel
theorem d5_isPortTaken_21 : decode b5_isPortTaken 21 = .ok (.iconst 1, 1) := by decide +kernel
theorem d5_isPortTaken_22 : decode b5_isPortTaken 22 = .ok (.goto 4, 3) := by decide +kernel
theorem d5_isPortTaken_25 : decode b5_isPortTaken 25 = .ok (.iconst 0, 1) := by decide +kernel
theorem d5_isPortTaken_26 : decode b5_isPortTaken 26 = .ok (.ireturn, 1) := by decide +kernel
theorem mc5_isCabled : Cond.code y5_isCabled b5_isCabled 2 (some .boolean) ∈ ce_cm := ce_cm_of (List.mem_of_getElem? (i := 677) (by decide +kernel)) (by decide +kernel)
theorem ml_5_65 : Cond.methodLink cn_5 65 y5_isCabled ∈ ce_cm := ce_cm_of (List.mem_of_getElem? (i := 674) (by decide +kernel)) (by decide +kernel)
theorem mi5_isCabled : Cond.instanceMethod y5_isCabled ∈ ce_cm := ce_cm_of (List.mem_of_getElem? (i := 675) (by decide +kernel)) (by decide +kernel)
theorem ms5_isCabled : Cond.selects cn_5 y5_isCabled y5_isCabled ∈ ce_cm := ce_cm_of (List.mem_of_getElem? (i := 676) (by decide +kernel)) (by decide +kernel)
theorem mc11_endOf : Cond.code y11_endOf b11_endOf 2 (some .int) ∈ ce_cm := ce_cm_of (List.mem_of_getElem? (i := 673) (by decide +kernel)) (by decide +kernel)
theorem mt11_endOf : Cond.static y11_endOf ∈ ce_cm := ce_cm_of (List.mem_of_getElem? (i := 672) (by decide +kernel)) (by decide +kernel)
theorem mc5_hasPort : Cond.code y5_hasPort b5_hasPort 3 (some .boolean) ∈ ce_cm := ce_cm_of (List.mem_of_getElem? (i := 669) (by decide +kernel)) (by decide +kernel)
theorem ml_5_57 : Cond.methodLink cn_5 57 y5_hasPort ∈ ce_cm := ce_cm_of (List.mem_of_getElem? (i := 666) (by decide +kernel)) (by decide +kernel)
theorem mi5_hasPort : Cond.instanceMethod y5_hasPort ∈ ce_cm := ce_cm_of (List.mem_of_getElem? (i := 667) (by decide +kernel)) (by decide +kernel)
theorem ms5_hasPort : Cond.selects cn_5 y5_hasPort y5_hasPort ∈ ce_cm := ce_cm_of (List.mem_of_getElem? (i := 668) (by decide +kernel)) (by decide +kernel)
def f5_isPortTaken (F : Nat) (k0 : Nat) (x1 : Int32) (x2 : Int32) (h : Hp) : Option (Int32 × Hp) :=
  Option.bind (f5_hasPort F k0 x1 x2 h) (fun o3 =>
    if o3.1 = 0 then
      some ((0 : Int32), o3.2)
    else
      Option.bind (f11_endOf F x1 x2 o3.2) (fun o12 =>
        Option.bind (f5_isCabled F k0 o12.1 o12.2) (fun o15 =>
          if o15.1 = 0 then
            some ((0 : Int32), o15.2)
          else
            some ((1 : Int32), o15.2))))
set_option maxRecDepth 20000 in
theorem c5_isPortTaken (l : Launch) (D : va_G) (ad : Nat → Nat) (cA : Nat → ClassId) (aK aV : Nat → Nat) (B0 : Nat) (hA : ce_Ad ad B0) (F : Nat) (k0 : Nat) (x1 : Int32) (x2 : Int32) (hk0 : ce_isNet k0) (h : Hp) (r : Int32 × Hp) (e : f5_isPortTaken F k0 x1 x2 h = some r) : ce_Ct l D ad cA B0 (ce_St aK aV B0) y5_isPortTaken b5_isPortTaken 3 (some .boolean) 2 43 0 0 [.ref (ad k0), .int x1, .int x2] h (some (.int r.1)) r.2 := by
  refine ce_enter hA (by decide) rfl (Nat.le_of_ble_eq_true rfl) (fun p e0 s m below meth c ls C hH hl => ?_)
  have hl : lv_has ls 3 [(0, .ref (ad k0)), (1, .int x1), (2, .int x2)] := hl
  have hx := C.1
  have hb := C.2.1
  have e : Option.bind _ some = some r := (congrArg (fun z => Option.bind z some) e).trans rfl
  unfold f5_isPortTaken at e
  refine lv_aload_n hx hb d5_isPortTaken_0 rfl (lv_at hl 0 rfl) ?_
  refine lv_iload_n hx hb d5_isPortTaken_1 rfl (lv_at hl 1 rfl) ?_
  refine lv_iload_n hx hb d5_isPortTaken_2 rfl (lv_at hl 2 rfl) ?_
  obtain ⟨o3, eo3, e⟩ := ce_bd e
  refine ce_callV (As := [.int x1, .int x2]) (rest := []) C (ce_sok aK aV B0) hH (c5_hasPort l D ad cA aK aV B0 C.2.2.2.2.2.2.1 F k0 x1 x2 hk0 h o3 eo3) (lk_Net hk0).1 (lk_Net hk0).2.choose_spec rfl rfl mc5_hasPort ml_5_57 mi5_hasPort ms5_hasPort mI_5 (n := 2) (by decide) rfl ⟨Nat.le_of_ble_eq_true rfl, Nat.le_of_ble_eq_true rfl⟩ ⟨Nat.le_of_ble_eq_true rfl, Nat.le_of_ble_eq_true rfl⟩ hl.1 rfl (Nat.le_of_ble_eq_true rfl) d5_isPortTaken_3 (fun H locs hH => ?_)
  refine W.eq (g2 := F0 m 6 ls [.int o3.1]) rfl ?_
  refine lv_if_eq (tgt := 25) hx hb d5_isPortTaken_6 (by decide) (fun hc6 => ?_) (fun hc6 => ?_)
  · have e := ce_if1 e hc6
    refine lv_iconst (v := (0 : Int32)) hx hb d5_isPortTaken_25 (by decide) ?_
    exact ce_zretE C (ce_sok aK aV B0) hH (Or.inl rfl) e d5_isPortTaken_26
  · have e := ce_if0 e hc6
    refine lv_aload_n hx hb d5_isPortTaken_9 rfl (lv_at hl 0 rfl) ?_
    refine lv_iload_n hx hb d5_isPortTaken_10 rfl (lv_at hl 1 rfl) ?_
    refine lv_iload_n hx hb d5_isPortTaken_11 rfl (lv_at hl 2 rfl) ?_
    obtain ⟨o12, eo12, e⟩ := ce_bd e
    refine ce_callN (As := [.int x1, .int x2]) (rest := [.ref (ad k0)]) C (ce_sok aK aV B0) hH (c11_endOf l D ad cA aK aV B0 C.2.2.2.2.2.2.1 F x1 x2  o3.2 o12 eo12) mc11_endOf (ce_nwW C.2.2.2.2.2.2.2.2.2.2 10 rfl) mt11_endOf mI_11 (n := 2) (by decide) rfl ⟨Nat.le_of_ble_eq_true rfl, Nat.le_of_ble_eq_true rfl⟩ ⟨Nat.le_of_ble_eq_true rfl, Nat.le_of_ble_eq_true rfl⟩ hl.1 rfl (Nat.le_of_ble_eq_true rfl) d5_isPortTaken_12 (fun H locs hH => ?_)
    refine W.eq (g2 := F0 m 15 ls [.int o12.1, .ref (ad k0)]) rfl ?_
    obtain ⟨o15, eo15, e⟩ := ce_bd e
    refine ce_callV (As := [.int o12.1]) (rest := []) C (ce_sok aK aV B0) hH (c5_isCabled l D ad cA aK aV B0 C.2.2.2.2.2.2.1 F k0 o12.1 hk0 o12.2 o15 eo15) (lk_Net hk0).1 (lk_Net hk0).2.choose_spec rfl rfl mc5_isCabled ml_5_65 mi5_isCabled ms5_isCabled mI_5 (n := 1) (by decide) rfl ⟨Nat.le_of_ble_eq_true rfl, Nat.le_of_ble_eq_true rfl⟩ ⟨Nat.le_of_ble_eq_true rfl, Nat.le_of_ble_eq_true rfl⟩ hl.1 rfl (Nat.le_of_ble_eq_true rfl) d5_isPortTaken_15 (fun H locs hH => ?_)
    refine W.eq (g2 := F0 m 18 ls [.int o15.1]) rfl ?_
    refine lv_if_eq (tgt := 25) hx hb d5_isPortTaken_18 (by decide) (fun hc18 => ?_) (fun hc18 => ?_)
    · have e := ce_if1 e hc18
      refine lv_iconst (v := (0 : Int32)) hx hb d5_isPortTaken_25 (by decide) ?_
      exact ce_zretE C (ce_sok aK aV B0) hH (Or.inl rfl) e d5_isPortTaken_26
    · have e := ce_if0 e hc18
      refine lv_iconst (v := (1 : Int32)) hx hb d5_isPortTaken_21 (by decide) ?_
      refine lv_goto (tgt := 26) hx hb d5_isPortTaken_22 (by decide) ?_
      exact ce_zretE C (ce_sok aK aV B0) hH (Or.inr rfl) e d5_isPortTaken_26
abbrev b5_isLesserEnd : ByteArray := prog_7_method_8_code
def y5_isLesserEnd : MethodName := ⟨cn_5, "isLesserEnd", "(I)Z"⟩
theorem d5_isLesserEnd_0 : decode b5_isLesserEnd 0 = .ok (.aload_n 0, 1) := by decide +kernel
theorem d5_isLesserEnd_1 : decode b5_isLesserEnd 1 = .ok (.iload_n 1, 1) := by decide +kernel
theorem d5_isLesserEnd_2 : decode b5_isLesserEnd 2 = .ok (.invokevirtual 65, 3) := by decide +kernel
theorem d5_isLesserEnd_5 : decode b5_isLesserEnd 5 = .ok (.ifCond .eq 17, 3) := by decide +kernel
theorem d5_isLesserEnd_8 : decode b5_isLesserEnd 8 = .ok (.iload_n 1, 1) := by decide +kernel
theorem d5_isLesserEnd_9 : decode b5_isLesserEnd 9 = .ok (.aload_n 0, 1) := by decide +kernel
theorem d5_isLesserEnd_10 : decode b5_isLesserEnd 10 = .ok (.getfield 41, 3) := by decide +kernel
theorem d5_isLesserEnd_13 : decode b5_isLesserEnd 13 = .ok (.iload_n 1, 1) := by decide +kernel
theorem d5_isLesserEnd_14 : decode b5_isLesserEnd 14 = .ok (.iaload, 1) := by decide +kernel
theorem d5_isLesserEnd_15 : decode b5_isLesserEnd 15 = .ok (.if_icmp .ge 7, 3) := by decide +kernel
theorem d5_isLesserEnd_18 : decode b5_isLesserEnd 18 = .ok (.iconst 1, 1) := by decide +kernel
theorem d5_isLesserEnd_19 : decode b5_isLesserEnd 19 = .ok (.goto 4, 3) := by decide +kernel
theorem d5_isLesserEnd_22 : decode b5_isLesserEnd 22 = .ok (.iconst 0, 1) := by decide +kernel
theorem d5_isLesserEnd_23 : decode b5_isLesserEnd 23 = .ok (.ireturn, 1) := by decide +kernel
def f5_isLesserEnd (F : Nat) (k0 : Nat) (x1 : Int32) (h : Hp) : Option (Int32 × Hp) :=
  Option.bind (f5_isCabled F k0 x1 h) (fun o2 =>
    if o2.1 = 0 then
      some ((0 : Int32), o2.2)
    else
      if ce_in x1 40 = true then
        if (o2.2 (k0 + 5) (x1).toNatClampNeg) ≤ x1 then
          some ((0 : Int32), o2.2)
        else
          some ((1 : Int32), o2.2)
      else none)
set_option maxRecDepth 20000 in
theorem c5_isLesserEnd (l : Launch) (D : va_G) (ad : Nat → Nat) (cA : Nat → ClassId) (aK aV : Nat → Nat) (B0 : Nat) (hA : ce_Ad ad B0) (F : Nat) (k0 : Nat) (x1 : Int32) (hk0 : ce_isNet k0) (h : Hp) (r : Int32 × Hp) (e : f5_isLesserEnd F k0 x1 h = some r) : ce_Ct l D ad cA B0 (ce_St aK aV B0) y5_isLesserEnd b5_isLesserEnd 2 (some .boolean) 1 21 0 0 [.ref (ad k0), .int x1] h (some (.int r.1)) r.2 := by
  refine ce_enter hA (by decide) rfl (Nat.le_of_ble_eq_true rfl) (fun p e0 s m below meth c ls C hH hl => ?_)
  have hl : lv_has ls 2 [(0, .ref (ad k0)), (1, .int x1)] := hl
  have hx := C.1
  have hb := C.2.1
  have e : Option.bind _ some = some r := (congrArg (fun z => Option.bind z some) e).trans rfl
  unfold f5_isLesserEnd at e
  refine lv_aload_n hx hb d5_isLesserEnd_0 rfl (lv_at hl 0 rfl) ?_
  refine lv_iload_n hx hb d5_isLesserEnd_1 rfl (lv_at hl 1 rfl) ?_
  obtain ⟨o2, eo2, e⟩ := ce_bd e
  refine ce_callV (As := [.int x1]) (rest := []) C (ce_sok aK aV B0) hH (c5_isCabled l D ad cA aK aV B0 C.2.2.2.2.2.2.1 F k0 x1 hk0 h o2 eo2) (lk_Net hk0).1 (lk_Net hk0).2.choose_spec rfl rfl mc5_isCabled ml_5_65 mi5_isCabled ms5_isCabled mI_5 (n := 1) (by decide) rfl ⟨Nat.le_of_ble_eq_true rfl, Nat.le_of_ble_eq_true rfl⟩ ⟨Nat.le_of_ble_eq_true rfl, Nat.le_of_ble_eq_true rfl⟩ hl.1 rfl (Nat.le_of_ble_eq_true rfl) d5_isLesserEnd_2 (fun H locs hH => ?_)
  refine W.eq (g2 := F0 m 5 ls [.int o2.1]) rfl ?_
  refine lv_if_eq (tgt := 22) hx hb d5_isLesserEnd_5 (by decide) (fun hc5 => ?_) (fun hc5 => ?_)
  · have e := ce_if1 e hc5
    refine lv_iconst (v := (0 : Int32)) hx hb d5_isLesserEnd_22 (by decide) ?_
    exact ce_zretE C (ce_sok aK aV B0) hH (Or.inl rfl) e d5_isLesserEnd_23
  · have e := ce_if0 e hc5
    refine lv_iload_n hx hb d5_isLesserEnd_8 rfl (lv_at hl 1 rfl) ?_
    refine lv_aload_n hx hb d5_isLesserEnd_9 rfl (lv_at hl 0 rfl) ?_
    refine gf_5_41 C hH hk0 d5_isLesserEnd_10 ?_
    refine lv_iload_n hx hb d5_isLesserEnd_13 rfl (lv_at hl 1 rfl) ?_
    obtain ⟨hi14, e⟩ := ce_gd e
    refine ce_iald C hH (la_Net_5 hk0).1 (la_Net_5 hk0).2 (ce_in_vp hi14) d5_isLesserEnd_14 ?_
    refine lv_icmp_ge (tgt := 22) hx hb d5_isLesserEnd_15 (by decide) (fun hc15 => ?_) (fun hc15 => ?_)
    · have e := ce_if1 e hc15
      refine lv_iconst (v := (0 : Int32)) hx hb d5_isLesserEnd_22 (by decide) ?_
      exact ce_zretE C (ce_sok aK aV B0) hH (Or.inl rfl) e d5_isLesserEnd_23
    · have e := ce_if0 e hc15
      refine lv_iconst (v := (1 : Int32)) hx hb d5_isLesserEnd_18 (by decide) ?_
      refine lv_goto (tgt := 23) hx hb d5_isLesserEnd_19 (by decide) ?_
      exact ce_zretE C (ce_sok aK aV B0) hH (Or.inr rfl) e d5_isLesserEnd_23
abbrev b5_link : ByteArray := prog_7_method_9_code
def y5_link : MethodName := ⟨cn_5, "link", "(III)V"⟩
theorem d5_link_0 : decode b5_link 0 = .ok (.iload_n 1, 1) := by decide +kernel
theorem d5_link_1 : decode b5_link 1 = .ok (.ifCond .lt 19, 3) := by decide +kernel
theorem d5_link_4 : decode b5_link 4 = .ok (.iload_n 2, 1) := by decide +kernel
theorem d5_link_5 : decode b5_link 5 = .ok (.ifCond .lt 15, 3) := by decide +kernel
theorem d5_link_8 : decode b5_link 8 = .ok (.iload_n 1, 1) := by decide +kernel
theorem d5_link_9 : decode b5_link 9 = .ok (.bipush 40, 2) := by decide +kernel
theorem d5_link_11 : decode b5_link 11 = .ok (.if_icmp .ge 9, 3) := by decide +kernel
theorem d5_link_14 : decode b5_link 14 = .ok (.iload_n 2, 1) := by decide +kernel
theorem d5_link_15 : decode b5_link 15 = .ok (.bipush 40, 2) := by decide +kernel
theorem d5_link_17 : decode b5_link 17 = .ok (.if_icmp .lt 4, 3) := by decide +kernel
theorem d5_link_20 : decode b5_link 20 = .ok (.return_, 1) := by decide +kernel
theorem d5_link_21 : decode b5_link 21 = .ok (.aload_n 0, 1) := by decide +kernel
theorem d5_link_22 : decode b5_link 22 = .ok (.getfield 41, 3) := by decide +kernel
theorem d5_link_25 : decode b5_link 25 = .ok (.iload_n 1, 1) := by decide +kernel
theorem d5_link_26 : decode b5_link 26 = .ok (.iload_n 2, 1) := by decide +kernel
theorem d5_link_27 : decode b5_link 27 = .ok (.iastore, 1) := by decide +kernel
theorem d5_link_28 : decode b5_link 28 = .ok (.aload_n 0, 1) := by decide +kernel
theorem d5_link_29 : decode b5_link 29 = .ok (.getfield 41, 3) := by decide +kernel
theorem d5_link_32 : decode b5_link 32 = .ok (.iload_n 2, 1) := by decide +kernel
theorem d5_link_33 : decode b5_link 33 = .ok (.iload_n 1, 1) := by decide +kernel
theorem d5_link_34 : decode b5_link 34 = .ok (.iastore, 1) := by decide +kernel
theorem d5_link_35 : decode b5_link 35 = .ok (.aload_n 0, 1) := by decide +kernel
theorem d5_link_36 : decode b5_link 36 = .ok (.getfield 44, 3) := by decide +kernel
theorem d5_link_39 : decode b5_link 39 = .ok (.iload_n 1, 1) := by decide +kernel
theorem d5_link_40 : decode b5_link 40 = .ok (.iload_n 3, 1) := by decide +kernel
theorem d5_link_41 : decode b5_link 41 = .ok (.iastore, 1) := by decide +kernel
theorem d5_link_42 : decode b5_link 42 = .ok (.aload_n 0, 1) := by decide +kernel
theorem d5_link_43 : decode b5_link 43 = .ok (.getfield 44, 3) := by decide +kernel
theorem d5_link_46 : decode b5_link 46 = .ok (.iload_n 2, 1) := by decide +kernel
theorem d5_link_47 : decode b5_link 47 = .ok (.iload_n 3, 1) := by decide +kernel
theorem d5_link_48 : decode b5_link 48 = .ok (.iastore, 1) := by decide +kernel
theorem d5_link_49 : decode b5_link 49 = .ok (.aload_n 0, 1) := by decide +kernel
theorem d5_link_50 : decode b5_link 50 = .ok (.dup, 1) := by decide +kernel
theorem d5_link_51 : decode b5_link 51 = .ok (.getfield 24, 3) := by decide +kernel
theorem d5_link_54 : decode b5_link 54 = .ok (.iconst 1, 1) := by decide +kernel
theorem d5_link_55 : decode b5_link 55 = .ok (.iadd, 1) := by decide +kernel
theorem d5_link_56 : decode b5_link 56 = .ok (.putfield 24, 3) := by decide +kernel
theorem d5_link_59 : decode b5_link 59 = .ok (.return_, 1) := by decide +kernel
theorem fl_5_44 : Cond.fieldLink cn_5 44 (ft_5 10).1 (ft_5 10).2.1 (ft_5 10).2.2.1 ∈ ce_cm := ce_cm_of (List.mem_of_getElem? (i := 235) (by decide +kernel)) (by decide +kernel)
theorem gf_5_44 (C : ce_Cx p s m args c meth cc nL ret cn_5 D ad cA B0 (ce_St aK aV B0)) (hH : ce_H D ad cA B0 X s h H locs) {k : Nat} (hk : ce_isNet k) (hdg : decode cc pc = .ok (.getfield 44, 3)) (kk : W p l e0 R s m args below meth c H locs cells slots Q (F0 m (pc + 3) ls (.ref (ad (k + 6)) :: rest))) : W p l e0 R s m args below meth c H locs cells slots Q (F0 m pc ls (.ref (ad k) :: rest)) := by
  rcases hk with rfl | rfl
  · exact ce_get C hH (k := 7) (ci := 5) (j := 10) (N := 11) (sj := some (some 13)) (by decide) rfl rfl fw_5 (by decide) fl_5_44 rfl hdg kk
  · exact ce_get C hH (k := 14) (ci := 5) (j := 10) (N := 11) (sj := some (some 20)) (by decide) rfl rfl fw_5 (by decide) fl_5_44 rfl hdg kk
theorem la_Net_6 {k : Nat} (hk : ce_isNet k) : k + 6 < 96 ∧ ce_lay (k + 6) = .inl (0, 40) := by rcases hk with rfl | rfl <;> exact ⟨by decide, rfl⟩
theorem fl_5_24 : Cond.fieldLink cn_5 24 (ft_5 4).1 (ft_5 4).2.1 (ft_5 4).2.2.1 ∈ ce_cm := ce_cm_of (List.mem_of_getElem? (i := 210) (by decide +kernel)) (by decide +kernel)
theorem gf_5_24 (C : ce_Cx p s m args c meth cc nL ret cn_5 D ad cA B0 (ce_St aK aV B0)) (hH : ce_H D ad cA B0 X s h H locs) {k : Nat} (hk : ce_isNet k) (hdg : decode cc pc = .ok (.getfield 24, 3)) (kk : W p l e0 R s m args below meth c H locs cells slots Q (F0 m (pc + 3) ls (.int (h k 4) :: rest))) : W p l e0 R s m args below meth c H locs cells slots Q (F0 m pc ls (.ref (ad k) :: rest)) := by
  rcases hk with rfl | rfl
  · exact ce_get C hH (k := 7) (ci := 5) (j := 4) (N := 11) (sj := none) (by decide) rfl rfl fw_5 (by decide) fl_5_24 rfl hdg kk
  · exact ce_get C hH (k := 14) (ci := 5) (j := 4) (N := 11) (sj := none) (by decide) rfl rfl fw_5 (by decide) fl_5_24 rfl hdg kk
theorem pf_5_24 (C : ce_Cx p s m args c meth cc nL ret cn_5 D ad cA B0 (ce_St aK aV B0)) (hH : ce_H D ad cA B0 X s h H locs) {k : Nat} (hk : ce_isNet k) {x : Int32} (hdg : decode cc pc = .ok (.putfield 24, 3)) (kk : ∀ (H1 : Heap) (locs1 : List Loc), ce_H D ad cA B0 X s (hp_up h k 4 x) H1 locs1 → W p l e0 R s m args below meth c H1 locs1 cells slots Q (F0 m (pc + 3) ls rest)) : W p l e0 R s m args below meth c H locs cells slots Q (F0 m pc ls (.int x :: .ref (ad k) :: rest)) := by
  rcases hk with rfl | rfl
  · exact ce_put C hH (k := 7) (ci := 5) (j := 4) (N := 11) (fy := fy_5) (sj := none) x (by decide) rfl rfl fw_5 fo_5 fn_5 (by decide) fl_5_24 rfl rfl (v := .int x) (by simp [ce_slot, upd]) rfl rfl hdg kk
  · exact ce_put C hH (k := 14) (ci := 5) (j := 4) (N := 11) (fy := fy_5) (sj := none) x (by decide) rfl rfl fw_5 fo_5 fn_5 (by decide) fl_5_24 rfl rfl (v := .int x) (by simp [ce_slot, upd]) rfl rfl hdg kk
def f5_link (F : Nat) (k0 : Nat) (x1 : Int32) (x2 : Int32) (x3 : Int32) (h : Hp) : Option (Hp) :=
  if x1 < 0 then
    some h
  else
    if x2 < 0 then
      some h
    else
      if (40 : Int32) ≤ x1 then
        some h
      else
        if x2 < (40 : Int32) then
          if ce_in x1 40 = true then
            ce_nm (hp_up h (k0 + 5) (x1).toNatClampNeg x2) (fun h_27 =>
              if ce_in x2 40 = true then
                ce_nm (hp_up h_27 (k0 + 5) (x2).toNatClampNeg x1) (fun h_34 =>
                  if ce_in x1 40 = true then
                    ce_nm (hp_up h_34 (k0 + 6) (x1).toNatClampNeg x3) (fun h_41 =>
                      if ce_in x2 40 = true then
                        ce_nm (hp_up h_41 (k0 + 6) (x2).toNatClampNeg x3) (fun h_48 =>
                          ce_nm (hp_up h_48 k0 4 ((h_48 k0 4) + (1 : Int32))) (fun h_56 =>
                            some h_56))
                      else none)
                  else none)
              else none)
          else none
        else
          some h
set_option maxRecDepth 20000 in
theorem c5_link (l : Launch) (D : va_G) (ad : Nat → Nat) (cA : Nat → ClassId) (aK aV : Nat → Nat) (B0 : Nat) (hA : ce_Ad ad B0) (F : Nat) (k0 : Nat) (x1 : Int32) (x2 : Int32) (x3 : Int32) (hk0 : ce_isNet k0) (h : Hp) (r : Hp) (e : f5_link F k0 x1 x2 x3 h = some r) : ce_Ct l D ad cA B0 (ce_St aK aV B0) y5_link b5_link 4 none 0 0 0 0 [.ref (ad k0), .int x1, .int x2, .int x3] h none r := by
  refine ce_enter hA (by decide) rfl (Nat.le_of_ble_eq_true rfl) (fun p e0 s m below meth c ls C hH hl => ?_)
  have hl : lv_has ls 4 [(0, .ref (ad k0)), (1, .int x1), (2, .int x2), (3, .int x3)] := hl
  have hx := C.1
  have hb := C.2.1
  have e : Option.bind _ some = some r := (congrArg (fun z => Option.bind z some) e).trans rfl
  unfold f5_link at e
  refine lv_iload_n hx hb d5_link_0 rfl (lv_at hl 1 rfl) ?_
  refine lv_if_lt (tgt := 20) hx hb d5_link_1 (by decide) (fun hc1 => ?_) (fun hc1 => ?_)
  · have e := ce_if1 e hc1
    exact ce_vret C (ce_sok aK aV B0) hH (Option.some.inj e) d5_link_20
  · have e := ce_if0 e hc1
    refine lv_iload_n hx hb d5_link_4 rfl (lv_at hl 2 rfl) ?_
    refine lv_if_lt (tgt := 20) hx hb d5_link_5 (by decide) (fun hc5 => ?_) (fun hc5 => ?_)
    · have e := ce_if1 e hc5
      exact ce_vret C (ce_sok aK aV B0) hH (Option.some.inj e) d5_link_20
    · have e := ce_if0 e hc5
      refine lv_iload_n hx hb d5_link_8 rfl (lv_at hl 1 rfl) ?_
      refine lv_bipush (v := (40 : Int32)) hx hb d5_link_9 (by decide) ?_
      refine lv_icmp_ge (tgt := 20) hx hb d5_link_11 (by decide) (fun hc11 => ?_) (fun hc11 => ?_)
      · have e := ce_if1 e hc11
        exact ce_vret C (ce_sok aK aV B0) hH (Option.some.inj e) d5_link_20
      · have e := ce_if0 e hc11
        refine lv_iload_n hx hb d5_link_14 rfl (lv_at hl 2 rfl) ?_
        refine lv_bipush (v := (40 : Int32)) hx hb d5_link_15 (by decide) ?_
        refine lv_icmp_lt (tgt := 21) hx hb d5_link_17 (by decide) (fun hc17 => ?_) (fun hc17 => ?_)
        · have e := ce_if1 e hc17
          refine lv_aload_n hx hb d5_link_21 rfl (lv_at hl 0 rfl) ?_
          refine gf_5_41 C hH hk0 d5_link_22 ?_
          refine lv_iload_n hx hb d5_link_25 rfl (lv_at hl 1 rfl) ?_
          refine lv_iload_n hx hb d5_link_26 rfl (lv_at hl 2 rfl) ?_
          obtain ⟨hi27, e⟩ := ce_gd e
          refine ce_iast C hH (la_Net_5 hk0).1 (la_Net_5 hk0).2 (ce_in_vp hi27) d5_link_27 (fun H locs hH => ?_)
          obtain ⟨h_27, eh_27, e⟩ := ce_nmE e
          rw [← eh_27] at hH
          refine lv_aload_n hx hb d5_link_28 rfl (lv_at hl 0 rfl) ?_
          refine gf_5_41 C hH hk0 d5_link_29 ?_
          refine lv_iload_n hx hb d5_link_32 rfl (lv_at hl 2 rfl) ?_
          refine lv_iload_n hx hb d5_link_33 rfl (lv_at hl 1 rfl) ?_
          obtain ⟨hi34, e⟩ := ce_gd e
          refine ce_iast C hH (la_Net_5 hk0).1 (la_Net_5 hk0).2 (ce_in_vp hi34) d5_link_34 (fun H locs hH => ?_)
          obtain ⟨h_34, eh_34, e⟩ := ce_nmE e
          rw [← eh_34] at hH
          refine lv_aload_n hx hb d5_link_35 rfl (lv_at hl 0 rfl) ?_
          refine gf_5_44 C hH hk0 d5_link_36 ?_
          refine lv_iload_n hx hb d5_link_39 rfl (lv_at hl 1 rfl) ?_
          refine lv_iload_n hx hb d5_link_40 rfl (lv_at hl 3 rfl) ?_
          obtain ⟨hi41, e⟩ := ce_gd e
          refine ce_iast C hH (la_Net_6 hk0).1 (la_Net_6 hk0).2 (ce_in_vp hi41) d5_link_41 (fun H locs hH => ?_)
          obtain ⟨h_41, eh_41, e⟩ := ce_nmE e
          rw [← eh_41] at hH
          refine lv_aload_n hx hb d5_link_42 rfl (lv_at hl 0 rfl) ?_
          refine gf_5_44 C hH hk0 d5_link_43 ?_
          refine lv_iload_n hx hb d5_link_46 rfl (lv_at hl 2 rfl) ?_
          refine lv_iload_n hx hb d5_link_47 rfl (lv_at hl 3 rfl) ?_
          obtain ⟨hi48, e⟩ := ce_gd e
          refine ce_iast C hH (la_Net_6 hk0).1 (la_Net_6 hk0).2 (ce_in_vp hi48) d5_link_48 (fun H locs hH => ?_)
          obtain ⟨h_48, eh_48, e⟩ := ce_nmE e
          rw [← eh_48] at hH
          refine lv_aload_n hx hb d5_link_49 rfl (lv_at hl 0 rfl) ?_
          refine lv_dup hx hb d5_link_50 rfl ?_
          refine gf_5_24 C hH hk0 d5_link_51 ?_
          refine lv_iconst (v := (1 : Int32)) hx hb d5_link_54 (by decide) ?_
          refine lv_iadd hx hb d5_link_55 ?_
          refine pf_5_24 C hH hk0 d5_link_56 (fun H locs hH => ?_)
          obtain ⟨h_56, eh_56, e⟩ := ce_nmE e
          rw [← eh_56] at hH
          exact ce_vret C (ce_sok aK aV B0) hH (Option.some.inj e) d5_link_59
        · have e := ce_if0 e hc17
          exact ce_vret C (ce_sok aK aV B0) hH (Option.some.inj e) d5_link_20
abbrev b5_unlink : ByteArray := prog_7_method_10_code
def y5_unlink : MethodName := ⟨cn_5, "unlink", "(I)V"⟩
theorem d5_unlink_0 : decode b5_unlink 0 = .ok (.aload_n 0, 1) := by decide +kernel
theorem d5_unlink_1 : decode b5_unlink 1 = .ok (.iload_n 1, 1) := by decide +kernel
theorem d5_unlink_2 : decode b5_unlink 2 = .ok (.invokevirtual 65, 3) := by decide +kernel
theorem d5_unlink_5 : decode b5_unlink 5 = .ok (.ifCond .eq 32, 3) := by decide +kernel
theorem d5_unlink_8 : decode b5_unlink 8 = .ok (.aload_n 0, 1) := by decide +kernel
theorem d5_unlink_9 : decode b5_unlink 9 = .ok (.getfield 41, 3) := by decide +kernel
theorem d5_unlink_12 : decode b5_unlink 12 = .ok (.aload_n 0, 1) := by decide +kernel
theorem d5_unlink_13 : decode b5_unlink 13 = .ok (.getfield 41, 3) := by decide +kernel
theorem d5_unlink_16 : decode b5_unlink 16 = .ok (.iload_n 1, 1) := by decide +kernel
theorem d5_unlink_17 : decode b5_unlink 17 = .ok (.iaload, 1) := by decide +kernel
theorem d5_unlink_18 : decode b5_unlink 18 = .ok (.iconst (-1), 1) := by decide +kernel
theorem d5_unlink_19 : decode b5_unlink 19 = .ok (.iastore, 1) := by decide +kernel
theorem d5_unlink_20 : decode b5_unlink 20 = .ok (.aload_n 0, 1) := by decide +kernel
theorem d5_unlink_21 : decode b5_unlink 21 = .ok (.getfield 41, 3) := by decide +kernel
theorem d5_unlink_24 : decode b5_unlink 24 = .ok (.iload_n 1, 1) := by decide +kernel
theorem d5_unlink_25 : decode b5_unlink 25 = .ok (.iconst (-1), 1) := by decide +kernel
theorem d5_unlink_26 : decode b5_unlink 26 = .ok (.iastore, 1) := by decide +kernel
theorem d5_unlink_27 : decode b5_unlink 27 = .ok (.aload_n 0, 1) := by decide +kernel
theorem d5_unlink_28 : decode b5_unlink 28 = .ok (.dup, 1) := by decide +kernel
theorem d5_unlink_29 : decode b5_unlink 29 = .ok (.getfield 24, 3) := by decide +kernel
theorem d5_unlink_32 : decode b5_unlink 32 = .ok (.iconst 1, 1) := by decide +kernel
theorem d5_unlink_33 : decode b5_unlink 33 = .ok (.isub, 1) := by decide +kernel
theorem d5_unlink_34 : decode b5_unlink 34 = .ok (.putfield 24, 3) := by decide +kernel
theorem d5_unlink_37 : decode b5_unlink 37 = .ok (.return_, 1) := by decide +kernel
def f5_unlink (F : Nat) (k0 : Nat) (x1 : Int32) (h : Hp) : Option (Hp) :=
  Option.bind (f5_isCabled F k0 x1 h) (fun o2 =>
    if o2.1 = 0 then
      some o2.2
    else
      if ce_in x1 40 = true then
        if ce_in (o2.2 (k0 + 5) (x1).toNatClampNeg) 40 = true then
          ce_nm (hp_up o2.2 (k0 + 5) ((o2.2 (k0 + 5) (x1).toNatClampNeg)).toNatClampNeg (-1 : Int32)) (fun h_19 =>
            if ce_in x1 40 = true then
              ce_nm (hp_up h_19 (k0 + 5) (x1).toNatClampNeg (-1 : Int32)) (fun h_26 =>
                ce_nm (hp_up h_26 k0 4 ((h_26 k0 4) - (1 : Int32))) (fun h_34 =>
                  some h_34))
            else none)
        else none
      else none)
set_option maxRecDepth 20000 in
theorem c5_unlink (l : Launch) (D : va_G) (ad : Nat → Nat) (cA : Nat → ClassId) (aK aV : Nat → Nat) (B0 : Nat) (hA : ce_Ad ad B0) (F : Nat) (k0 : Nat) (x1 : Int32) (hk0 : ce_isNet k0) (h : Hp) (r : Hp) (e : f5_unlink F k0 x1 h = some r) : ce_Ct l D ad cA B0 (ce_St aK aV B0) y5_unlink b5_unlink 2 none 1 21 0 0 [.ref (ad k0), .int x1] h none r := by
  refine ce_enter hA (by decide) rfl (Nat.le_of_ble_eq_true rfl) (fun p e0 s m below meth c ls C hH hl => ?_)
  have hl : lv_has ls 2 [(0, .ref (ad k0)), (1, .int x1)] := hl
  have hx := C.1
  have hb := C.2.1
  have e : Option.bind _ some = some r := (congrArg (fun z => Option.bind z some) e).trans rfl
  unfold f5_unlink at e
  refine lv_aload_n hx hb d5_unlink_0 rfl (lv_at hl 0 rfl) ?_
  refine lv_iload_n hx hb d5_unlink_1 rfl (lv_at hl 1 rfl) ?_
  obtain ⟨o2, eo2, e⟩ := ce_bd e
  refine ce_callV (As := [.int x1]) (rest := []) C (ce_sok aK aV B0) hH (c5_isCabled l D ad cA aK aV B0 C.2.2.2.2.2.2.1 F k0 x1 hk0 h o2 eo2) (lk_Net hk0).1 (lk_Net hk0).2.choose_spec rfl rfl mc5_isCabled ml_5_65 mi5_isCabled ms5_isCabled mI_5 (n := 1) (by decide) rfl ⟨Nat.le_of_ble_eq_true rfl, Nat.le_of_ble_eq_true rfl⟩ ⟨Nat.le_of_ble_eq_true rfl, Nat.le_of_ble_eq_true rfl⟩ hl.1 rfl (Nat.le_of_ble_eq_true rfl) d5_unlink_2 (fun H locs hH => ?_)
  refine W.eq (g2 := F0 m 5 ls [.int o2.1]) rfl ?_
  refine lv_if_eq (tgt := 37) hx hb d5_unlink_5 (by decide) (fun hc5 => ?_) (fun hc5 => ?_)
  · have e := ce_if1 e hc5
    exact ce_vret C (ce_sok aK aV B0) hH (Option.some.inj e) d5_unlink_37
  · have e := ce_if0 e hc5
    refine lv_aload_n hx hb d5_unlink_8 rfl (lv_at hl 0 rfl) ?_
    refine gf_5_41 C hH hk0 d5_unlink_9 ?_
    refine lv_aload_n hx hb d5_unlink_12 rfl (lv_at hl 0 rfl) ?_
    refine gf_5_41 C hH hk0 d5_unlink_13 ?_
    refine lv_iload_n hx hb d5_unlink_16 rfl (lv_at hl 1 rfl) ?_
    obtain ⟨hi17, e⟩ := ce_gd e
    refine ce_iald C hH (la_Net_5 hk0).1 (la_Net_5 hk0).2 (ce_in_vp hi17) d5_unlink_17 ?_
    refine lv_iconst (v := (-1 : Int32)) hx hb d5_unlink_18 (by decide) ?_
    obtain ⟨hi19, e⟩ := ce_gd e
    refine ce_iast C hH (la_Net_5 hk0).1 (la_Net_5 hk0).2 (ce_in_vp hi19) d5_unlink_19 (fun H locs hH => ?_)
    obtain ⟨h_19, eh_19, e⟩ := ce_nmE e
    rw [← eh_19] at hH
    refine lv_aload_n hx hb d5_unlink_20 rfl (lv_at hl 0 rfl) ?_
    refine gf_5_41 C hH hk0 d5_unlink_21 ?_
    refine lv_iload_n hx hb d5_unlink_24 rfl (lv_at hl 1 rfl) ?_
    refine lv_iconst (v := (-1 : Int32)) hx hb d5_unlink_25 (by decide) ?_
    obtain ⟨hi26, e⟩ := ce_gd e
    refine ce_iast C hH (la_Net_5 hk0).1 (la_Net_5 hk0).2 (ce_in_vp hi26) d5_unlink_26 (fun H locs hH => ?_)
    obtain ⟨h_26, eh_26, e⟩ := ce_nmE e
    rw [← eh_26] at hH
    refine lv_aload_n hx hb d5_unlink_27 rfl (lv_at hl 0 rfl) ?_
    refine lv_dup hx hb d5_unlink_28 rfl ?_
    refine gf_5_24 C hH hk0 d5_unlink_29 ?_
    refine lv_iconst (v := (1 : Int32)) hx hb d5_unlink_32 (by decide) ?_
    refine lv_isub hx hb d5_unlink_33 ?_
    refine pf_5_24 C hH hk0 d5_unlink_34 (fun H locs hH => ?_)
    obtain ⟨h_34, eh_34, e⟩ := ce_nmE e
    rw [← eh_34] at hH
    exact ce_vret C (ce_sok aK aV B0) hH (Option.some.inj e) d5_unlink_37
abbrev b5_coinOf : ByteArray := prog_7_method_11_code
def y5_coinOf : MethodName := ⟨cn_5, "coinOf", "(II)I"⟩
theorem d5_coinOf_0 : decode b5_coinOf 0 = .ok (.aload_n 0, 1) := by decide +kernel
theorem d5_coinOf_1 : decode b5_coinOf 1 = .ok (.getfield 38, 3) := by decide +kernel
theorem d5_coinOf_4 : decode b5_coinOf 4 = .ok (.iload_n 1, 1) := by decide +kernel
theorem d5_coinOf_5 : decode b5_coinOf 5 = .ok (.iaload, 1) := by decide +kernel
theorem d5_coinOf_6 : decode b5_coinOf 6 = .ok (.iconst 1, 1) := by decide +kernel
theorem d5_coinOf_7 : decode b5_coinOf 7 = .ok (.if_icmp .ge 5, 3) := by decide +kernel
theorem d5_coinOf_10 : decode b5_coinOf 10 = .ok (.iconst 0, 1) := by decide +kernel
theorem d5_coinOf_11 : decode b5_coinOf 11 = .ok (.ireturn, 1) := by decide +kernel
theorem d5_coinOf_12 : decode b5_coinOf 12 = .ok (.aload_n 0, 1) := by decide +kernel
theorem d5_coinOf_13 : decode b5_coinOf 13 = .ok (.getfield 35, 3) := by decide +kernel
theorem d5_coinOf_16 : decode b5_coinOf 16 = .ok (.iload_n 1, 1) := by decide +kernel
theorem d5_coinOf_17 : decode b5_coinOf 17 = .ok (.iaload, 1) := by decide +kernel
theorem d5_coinOf_18 : decode b5_coinOf 18 = .ok (.iload_n 2, 1) := by decide +kernel
theorem d5_coinOf_19 : decode b5_coinOf 19 = .ok (.aload_n 0, 1) := by decide +kernel
theorem d5_coinOf_20 : decode b5_coinOf 20 = .ok (.getfield 38, 3) := by decide +kernel
theorem d5_coinOf_23 : decode b5_coinOf 23 = .ok (.iload_n 1, 1) := by decide +kernel
theorem d5_coinOf_24 : decode b5_coinOf 24 = .ok (.iaload, 1) := by decide +kernel
theorem d5_coinOf_25 : decode b5_coinOf 25 = .ok (.irem, 1) := by decide +kernel
theorem d5_coinOf_26 : decode b5_coinOf 26 = .ok (.iushr, 1) := by decide +kernel
theorem d5_coinOf_27 : decode b5_coinOf 27 = .ok (.iconst 1, 1) := by decide +kernel
theorem d5_coinOf_28 : decode b5_coinOf 28 = .ok (.iand, 1) := by decide +kernel
theorem d5_coinOf_29 : decode b5_coinOf 29 = .ok (.ireturn, 1) := by decide +kernel
theorem fl_5_38 : Cond.fieldLink cn_5 38 (ft_5 8).1 (ft_5 8).2.1 (ft_5 8).2.2.1 ∈ ce_cm := ce_cm_of (List.mem_of_getElem? (i := 227) (by decide +kernel)) (by decide +kernel)
theorem gf_5_38 (C : ce_Cx p s m args c meth cc nL ret cn_5 D ad cA B0 (ce_St aK aV B0)) (hH : ce_H D ad cA B0 X s h H locs) {k : Nat} (hk : ce_isNet k) (hdg : decode cc pc = .ok (.getfield 38, 3)) (kk : W p l e0 R s m args below meth c H locs cells slots Q (F0 m (pc + 3) ls (.ref (ad (k + 4)) :: rest))) : W p l e0 R s m args below meth c H locs cells slots Q (F0 m pc ls (.ref (ad k) :: rest)) := by
  rcases hk with rfl | rfl
  · exact ce_get C hH (k := 7) (ci := 5) (j := 8) (N := 11) (sj := some (some 11)) (by decide) rfl rfl fw_5 (by decide) fl_5_38 rfl hdg kk
  · exact ce_get C hH (k := 14) (ci := 5) (j := 8) (N := 11) (sj := some (some 18)) (by decide) rfl rfl fw_5 (by decide) fl_5_38 rfl hdg kk
theorem la_Net_4 {k : Nat} (hk : ce_isNet k) : k + 4 < 96 ∧ ce_lay (k + 4) = .inl (0, 10) := by rcases hk with rfl | rfl <;> exact ⟨by decide, rfl⟩
theorem fl_5_35 : Cond.fieldLink cn_5 35 (ft_5 7).1 (ft_5 7).2.1 (ft_5 7).2.2.1 ∈ ce_cm := ce_cm_of (List.mem_of_getElem? (i := 225) (by decide +kernel)) (by decide +kernel)
theorem gf_5_35 (C : ce_Cx p s m args c meth cc nL ret cn_5 D ad cA B0 (ce_St aK aV B0)) (hH : ce_H D ad cA B0 X s h H locs) {k : Nat} (hk : ce_isNet k) (hdg : decode cc pc = .ok (.getfield 35, 3)) (kk : W p l e0 R s m args below meth c H locs cells slots Q (F0 m (pc + 3) ls (.ref (ad (k + 3)) :: rest))) : W p l e0 R s m args below meth c H locs cells slots Q (F0 m pc ls (.ref (ad k) :: rest)) := by
  rcases hk with rfl | rfl
  · exact ce_get C hH (k := 7) (ci := 5) (j := 7) (N := 11) (sj := some (some 10)) (by decide) rfl rfl fw_5 (by decide) fl_5_35 rfl hdg kk
  · exact ce_get C hH (k := 14) (ci := 5) (j := 7) (N := 11) (sj := some (some 17)) (by decide) rfl rfl fw_5 (by decide) fl_5_35 rfl hdg kk
theorem la_Net_3 {k : Nat} (hk : ce_isNet k) : k + 3 < 96 ∧ ce_lay (k + 3) = .inl (0, 10) := by rcases hk with rfl | rfl <;> exact ⟨by decide, rfl⟩
def f5_coinOf (F : Nat) (k0 : Nat) (x1 : Int32) (x2 : Int32) (h : Hp) : Option (Int32 × Hp) :=
  if ce_in x1 10 = true then
    if (1 : Int32) ≤ (h (k0 + 4) (x1).toNatClampNeg) then
      if ce_in x1 10 = true then
        if ce_in x1 10 = true then
          if ¬ h (k0 + 4) (x1).toNatClampNeg = 0 then
            some ((ce_ushr (h (k0 + 3) (x1).toNatClampNeg) (x2 - x2 / (h (k0 + 4) (x1).toNatClampNeg) * (h (k0 + 4) (x1).toNatClampNeg))) &&& (1 : Int32), h)
          else none
        else none
      else none
    else
      some ((0 : Int32), h)
  else none
set_option maxRecDepth 20000 in
theorem c5_coinOf (l : Launch) (D : va_G) (ad : Nat → Nat) (cA : Nat → ClassId) (aK aV : Nat → Nat) (B0 : Nat) (hA : ce_Ad ad B0) (F : Nat) (k0 : Nat) (x1 : Int32) (x2 : Int32) (hk0 : ce_isNet k0) (h : Hp) (r : Int32 × Hp) (e : f5_coinOf F k0 x1 x2 h = some r) : ce_Ct l D ad cA B0 (ce_St aK aV B0) y5_coinOf b5_coinOf 3 (some .int) 0 0 0 0 [.ref (ad k0), .int x1, .int x2] h (some (.int r.1)) r.2 := by
  refine ce_enter hA (by decide) rfl (Nat.le_of_ble_eq_true rfl) (fun p e0 s m below meth c ls C hH hl => ?_)
  have hl : lv_has ls 3 [(0, .ref (ad k0)), (1, .int x1), (2, .int x2)] := hl
  have hx := C.1
  have hb := C.2.1
  have e : Option.bind _ some = some r := (congrArg (fun z => Option.bind z some) e).trans rfl
  unfold f5_coinOf at e
  refine lv_aload_n hx hb d5_coinOf_0 rfl (lv_at hl 0 rfl) ?_
  refine gf_5_38 C hH hk0 d5_coinOf_1 ?_
  refine lv_iload_n hx hb d5_coinOf_4 rfl (lv_at hl 1 rfl) ?_
  obtain ⟨hi5, e⟩ := ce_gd e
  refine ce_iald C hH (la_Net_4 hk0).1 (la_Net_4 hk0).2 (ce_in_vp hi5) d5_coinOf_5 ?_
  refine lv_iconst (v := (1 : Int32)) hx hb d5_coinOf_6 (by decide) ?_
  refine lv_icmp_ge (tgt := 12) hx hb d5_coinOf_7 (by decide) (fun hc7 => ?_) (fun hc7 => ?_)
  · have e := ce_if1 e hc7
    refine lv_aload_n hx hb d5_coinOf_12 rfl (lv_at hl 0 rfl) ?_
    refine gf_5_35 C hH hk0 d5_coinOf_13 ?_
    refine lv_iload_n hx hb d5_coinOf_16 rfl (lv_at hl 1 rfl) ?_
    obtain ⟨hi17, e⟩ := ce_gd e
    refine ce_iald C hH (la_Net_3 hk0).1 (la_Net_3 hk0).2 (ce_in_vp hi17) d5_coinOf_17 ?_
    refine lv_iload_n hx hb d5_coinOf_18 rfl (lv_at hl 2 rfl) ?_
    refine lv_aload_n hx hb d5_coinOf_19 rfl (lv_at hl 0 rfl) ?_
    refine gf_5_38 C hH hk0 d5_coinOf_20 ?_
    refine lv_iload_n hx hb d5_coinOf_23 rfl (lv_at hl 1 rfl) ?_
    obtain ⟨hi24, e⟩ := ce_gd e
    refine ce_iald C hH (la_Net_4 hk0).1 (la_Net_4 hk0).2 (ce_in_vp hi24) d5_coinOf_24 ?_
    obtain ⟨hc25, e⟩ := ce_gd e
    refine lv_irem hx hb d5_coinOf_25 hc25 ?_
    refine lv_iushr (v := ce_ushr (h (k0 + 3) (x1).toNatClampNeg) (x2 - x2 / (h (k0 + 4) (x1).toNatClampNeg) * (h (k0 + 4) (x1).toNatClampNeg))) hx hb d5_coinOf_26 rfl ?_
    refine lv_iconst (v := (1 : Int32)) hx hb d5_coinOf_27 (by decide) ?_
    refine lv_iand hx hb d5_coinOf_28 ?_
    exact ce_iretE C (ce_sok aK aV B0) hH e d5_coinOf_29
  · have e := ce_if0 e hc7
    refine lv_iconst (v := (0 : Int32)) hx hb d5_coinOf_10 (by decide) ?_
    exact ce_iretE C (ce_sok aK aV B0) hH e d5_coinOf_11
abbrev b5_addNode : ByteArray := prog_7_method_3_code
def y5_addNode : MethodName := ⟨cn_5, "addNode", "(I)V"⟩
theorem d5_addNode_0 : decode b5_addNode 0 = .ok (.aload_n 0, 1) := by decide +kernel
theorem d5_addNode_1 : decode b5_addNode 1 = .ok (.getfield 21, 3) := by decide +kernel
theorem d5_addNode_4 : decode b5_addNode 4 = .ok (.bipush 10, 2) := by decide +kernel
theorem d5_addNode_6 : decode b5_addNode 6 = .ok (.if_icmp .ge 53, 3) := by decide +kernel
theorem d5_addNode_9 : decode b5_addNode 9 = .ok (.aload_n 0, 1) := by decide +kernel
theorem d5_addNode_10 : decode b5_addNode 10 = .ok (.getfield 27, 3) := by decide +kernel
theorem d5_addNode_13 : decode b5_addNode 13 = .ok (.aload_n 0, 1) := by decide +kernel
theorem d5_addNode_14 : decode b5_addNode 14 = .ok (.getfield 21, 3) := by decide +kernel
theorem d5_addNode_17 : decode b5_addNode 17 = .ok (.iload_n 1, 1) := by decide +kernel
theorem d5_addNode_18 : decode b5_addNode 18 = .ok (.iastore, 1) := by decide +kernel
theorem d5_addNode_19 : decode b5_addNode 19 = .ok (.aload_n 0, 1) := by decide +kernel
theorem d5_addNode_20 : decode b5_addNode 20 = .ok (.getfield 31, 3) := by decide +kernel
theorem d5_addNode_23 : decode b5_addNode 23 = .ok (.aload_n 0, 1) := by decide +kernel
theorem d5_addNode_24 : decode b5_addNode 24 = .ok (.getfield 21, 3) := by decide +kernel
theorem d5_addNode_27 : decode b5_addNode 27 = .ok (.iconst 0, 1) := by decide +kernel
theorem d5_addNode_28 : decode b5_addNode 28 = .ok (.bastore, 1) := by decide +kernel
theorem d5_addNode_29 : decode b5_addNode 29 = .ok (.aload_n 0, 1) := by decide +kernel
theorem d5_addNode_30 : decode b5_addNode 30 = .ok (.getfield 35, 3) := by decide +kernel
theorem d5_addNode_33 : decode b5_addNode 33 = .ok (.aload_n 0, 1) := by decide +kernel
theorem d5_addNode_34 : decode b5_addNode 34 = .ok (.getfield 21, 3) := by decide +kernel
theorem d5_addNode_37 : decode b5_addNode 37 = .ok (.iconst 0, 1) := by decide +kernel
theorem d5_addNode_38 : decode b5_addNode 38 = .ok (.iastore, 1) := by decide +kernel
theorem d5_addNode_39 : decode b5_addNode 39 = .ok (.aload_n 0, 1) := by decide +kernel
theorem d5_addNode_40 : decode b5_addNode 40 = .ok (.getfield 38, 3) := by decide +kernel
theorem d5_addNode_43 : decode b5_addNode 43 = .ok (.aload_n 0, 1) := by decide +kernel
theorem d5_addNode_44 : decode b5_addNode 44 = .ok (.getfield 21, 3) := by decide +kernel
theorem d5_addNode_47 : decode b5_addNode 47 = .ok (.iconst 1, 1) := by decide +kernel
theorem d5_addNode_48 : decode b5_addNode 48 = .ok (.iastore, 1) := by decide +kernel
theorem d5_addNode_49 : decode b5_addNode 49 = .ok (.aload_n 0, 1) := by decide +kernel
theorem d5_addNode_50 : decode b5_addNode 50 = .ok (.dup, 1) := by decide +kernel
theorem d5_addNode_51 : decode b5_addNode 51 = .ok (.getfield 21, 3) := by decide +kernel
theorem d5_addNode_54 : decode b5_addNode 54 = .ok (.iconst 1, 1) := by decide +kernel
theorem d5_addNode_55 : decode b5_addNode 55 = .ok (.iadd, 1) := by decide +kernel
theorem d5_addNode_56 : decode b5_addNode 56 = .ok (.putfield 21, 3) := by decide +kernel
theorem d5_addNode_59 : decode b5_addNode 59 = .ok (.return_, 1) := by decide +kernel
theorem fl_5_31 : Cond.fieldLink cn_5 31 (ft_5 6).1 (ft_5 6).2.1 (ft_5 6).2.2.1 ∈ ce_cm := ce_cm_of (List.mem_of_getElem? (i := 220) (by decide +kernel)) (by decide +kernel)
theorem gf_5_31 (C : ce_Cx p s m args c meth cc nL ret cn_5 D ad cA B0 (ce_St aK aV B0)) (hH : ce_H D ad cA B0 X s h H locs) {k : Nat} (hk : ce_isNet k) (hdg : decode cc pc = .ok (.getfield 31, 3)) (kk : W p l e0 R s m args below meth c H locs cells slots Q (F0 m (pc + 3) ls (.ref (ad (k + 2)) :: rest))) : W p l e0 R s m args below meth c H locs cells slots Q (F0 m pc ls (.ref (ad k) :: rest)) := by
  rcases hk with rfl | rfl
  · exact ce_get C hH (k := 7) (ci := 5) (j := 6) (N := 11) (sj := some (some 9)) (by decide) rfl rfl fw_5 (by decide) fl_5_31 rfl hdg kk
  · exact ce_get C hH (k := 14) (ci := 5) (j := 6) (N := 11) (sj := some (some 16)) (by decide) rfl rfl fw_5 (by decide) fl_5_31 rfl hdg kk
theorem la_Net_2 {k : Nat} (hk : ce_isNet k) : k + 2 < 96 ∧ ce_lay (k + 2) = .inl (2, 10) := by rcases hk with rfl | rfl <;> exact ⟨by decide, rfl⟩
def f5_addNode (F : Nat) (k0 : Nat) (x1 : Int32) (h : Hp) : Option (Hp) :=
  if (10 : Int32) ≤ (h k0 3) then
    some h
  else
    if ce_in (h k0 3) 10 = true then
      ce_nm (hp_up h (k0 + 1) ((h k0 3)).toNatClampNeg x1) (fun h_18 =>
        if ce_in (h_18 k0 3) 10 = true then
          ce_nm (hp_up h_18 (k0 + 2) ((h_18 k0 3)).toNatClampNeg (vp_nar .boolean (0 : Int32))) (fun h_28 =>
            if ce_in (h_28 k0 3) 10 = true then
              ce_nm (hp_up h_28 (k0 + 3) ((h_28 k0 3)).toNatClampNeg (0 : Int32)) (fun h_38 =>
                if ce_in (h_38 k0 3) 10 = true then
                  ce_nm (hp_up h_38 (k0 + 4) ((h_38 k0 3)).toNatClampNeg (1 : Int32)) (fun h_48 =>
                    ce_nm (hp_up h_48 k0 3 ((h_48 k0 3) + (1 : Int32))) (fun h_56 =>
                      some h_56))
                else none)
            else none)
        else none)
    else none
set_option maxRecDepth 20000 in
theorem c5_addNode (l : Launch) (D : va_G) (ad : Nat → Nat) (cA : Nat → ClassId) (aK aV : Nat → Nat) (B0 : Nat) (hA : ce_Ad ad B0) (F : Nat) (k0 : Nat) (x1 : Int32) (hk0 : ce_isNet k0) (h : Hp) (r : Hp) (e : f5_addNode F k0 x1 h = some r) : ce_Ct l D ad cA B0 (ce_St aK aV B0) y5_addNode b5_addNode 2 none 0 0 0 0 [.ref (ad k0), .int x1] h none r := by
  refine ce_enter hA (by decide) rfl (Nat.le_of_ble_eq_true rfl) (fun p e0 s m below meth c ls C hH hl => ?_)
  have hl : lv_has ls 2 [(0, .ref (ad k0)), (1, .int x1)] := hl
  have hx := C.1
  have hb := C.2.1
  have e : Option.bind _ some = some r := (congrArg (fun z => Option.bind z some) e).trans rfl
  unfold f5_addNode at e
  refine lv_aload_n hx hb d5_addNode_0 rfl (lv_at hl 0 rfl) ?_
  refine gf_5_21 C hH hk0 d5_addNode_1 ?_
  refine lv_bipush (v := (10 : Int32)) hx hb d5_addNode_4 (by decide) ?_
  refine lv_icmp_ge (tgt := 59) hx hb d5_addNode_6 (by decide) (fun hc6 => ?_) (fun hc6 => ?_)
  · have e := ce_if1 e hc6
    exact ce_vret C (ce_sok aK aV B0) hH (Option.some.inj e) d5_addNode_59
  · have e := ce_if0 e hc6
    refine lv_aload_n hx hb d5_addNode_9 rfl (lv_at hl 0 rfl) ?_
    refine gf_5_27 C hH hk0 d5_addNode_10 ?_
    refine lv_aload_n hx hb d5_addNode_13 rfl (lv_at hl 0 rfl) ?_
    refine gf_5_21 C hH hk0 d5_addNode_14 ?_
    refine lv_iload_n hx hb d5_addNode_17 rfl (lv_at hl 1 rfl) ?_
    obtain ⟨hi18, e⟩ := ce_gd e
    refine ce_iast C hH (la_Net_1 hk0).1 (la_Net_1 hk0).2 (ce_in_vp hi18) d5_addNode_18 (fun H locs hH => ?_)
    obtain ⟨h_18, eh_18, e⟩ := ce_nmE e
    rw [← eh_18] at hH
    refine lv_aload_n hx hb d5_addNode_19 rfl (lv_at hl 0 rfl) ?_
    refine gf_5_31 C hH hk0 d5_addNode_20 ?_
    refine lv_aload_n hx hb d5_addNode_23 rfl (lv_at hl 0 rfl) ?_
    refine gf_5_21 C hH hk0 d5_addNode_24 ?_
    refine lv_iconst (v := (0 : Int32)) hx hb d5_addNode_27 (by decide) ?_
    obtain ⟨hi28, e⟩ := ce_gd e
    refine ce_zast C hH (la_Net_2 hk0).1 (la_Net_2 hk0).2 (ce_in_vp hi28) d5_addNode_28 (fun H locs hH => ?_)
    obtain ⟨h_28, eh_28, e⟩ := ce_nmE e
    rw [← eh_28] at hH
    refine lv_aload_n hx hb d5_addNode_29 rfl (lv_at hl 0 rfl) ?_
    refine gf_5_35 C hH hk0 d5_addNode_30 ?_
    refine lv_aload_n hx hb d5_addNode_33 rfl (lv_at hl 0 rfl) ?_
    refine gf_5_21 C hH hk0 d5_addNode_34 ?_
    refine lv_iconst (v := (0 : Int32)) hx hb d5_addNode_37 (by decide) ?_
    obtain ⟨hi38, e⟩ := ce_gd e
    refine ce_iast C hH (la_Net_3 hk0).1 (la_Net_3 hk0).2 (ce_in_vp hi38) d5_addNode_38 (fun H locs hH => ?_)
    obtain ⟨h_38, eh_38, e⟩ := ce_nmE e
    rw [← eh_38] at hH
    refine lv_aload_n hx hb d5_addNode_39 rfl (lv_at hl 0 rfl) ?_
    refine gf_5_38 C hH hk0 d5_addNode_40 ?_
    refine lv_aload_n hx hb d5_addNode_43 rfl (lv_at hl 0 rfl) ?_
    refine gf_5_21 C hH hk0 d5_addNode_44 ?_
    refine lv_iconst (v := (1 : Int32)) hx hb d5_addNode_47 (by decide) ?_
    obtain ⟨hi48, e⟩ := ce_gd e
    refine ce_iast C hH (la_Net_4 hk0).1 (la_Net_4 hk0).2 (ce_in_vp hi48) d5_addNode_48 (fun H locs hH => ?_)
    obtain ⟨h_48, eh_48, e⟩ := ce_nmE e
    rw [← eh_48] at hH
    refine lv_aload_n hx hb d5_addNode_49 rfl (lv_at hl 0 rfl) ?_
    refine lv_dup hx hb d5_addNode_50 rfl ?_
    refine gf_5_21 C hH hk0 d5_addNode_51 ?_
    refine lv_iconst (v := (1 : Int32)) hx hb d5_addNode_54 (by decide) ?_
    refine lv_iadd hx hb d5_addNode_55 ?_
    refine pf_5_21 C hH hk0 d5_addNode_56 (fun H locs hH => ?_)
    obtain ⟨h_56, eh_56, e⟩ := ce_nmE e
    rw [← eh_56] at hH
    exact ce_vret C (ce_sok aK aV B0) hH (Option.some.inj e) d5_addNode_59
abbrev b7_append : ByteArray := prog_9_method_2_code
def y7_append : MethodName := ⟨cn_7, "append", "(I)V"⟩
theorem d7_append_0 : decode b7_append 0 = .ok (.bipush 24, 2) := by decide +kernel
theorem d7_append_2 : decode b7_append 2 = .ok (.istore_n 2, 1) := by decide +kernel
theorem d7_append_3 : decode b7_append 3 = .ok (.iload_n 2, 1) := by decide +kernel
theorem d7_append_4 : decode b7_append 4 = .ok (.ifCond .lt 42, 3) := by decide +kernel
theorem d7_append_7 : decode b7_append 7 = .ok (.aload_n 0, 1) := by decide +kernel
theorem d7_append_8 : decode b7_append 8 = .ok (.getfield 15, 3) := by decide +kernel
theorem d7_append_11 : decode b7_append 11 = .ok (.sipush 700, 3) := by decide +kernel
theorem d7_append_14 : decode b7_append 14 = .ok (.if_icmp .ge 26, 3) := by decide +kernel
theorem d7_append_17 : decode b7_append 17 = .ok (.aload_n 0, 1) := by decide +kernel
theorem d7_append_18 : decode b7_append 18 = .ok (.getfield 9, 3) := by decide +kernel
theorem d7_append_21 : decode b7_append 21 = .ok (.aload_n 0, 1) := by decide +kernel
theorem d7_append_22 : decode b7_append 22 = .ok (.getfield 15, 3) := by decide +kernel
theorem d7_append_25 : decode b7_append 25 = .ok (.iload_n 1, 1) := by decide +kernel
theorem d7_append_26 : decode b7_append 26 = .ok (.iload_n 2, 1) := by decide +kernel
theorem d7_append_27 : decode b7_append 27 = .ok (.iushr, 1) := by decide +kernel
theorem d7_append_28 : decode b7_append 28 = .ok (.i2b, 1) := by decide +kernel
theorem d7_append_29 : decode b7_append 29 = .ok (.bastore, 1) := by decide +kernel
theorem d7_append_30 : decode b7_append 30 = .ok (.aload_n 0, 1) := by decide +kernel
theorem d7_append_31 : decode b7_append 31 = .ok (.dup, 1) := by decide +kernel
theorem d7_append_32 : decode b7_append 32 = .ok (.getfield 15, 3) := by decide +kernel
theorem d7_append_35 : decode b7_append 35 = .ok (.iconst 1, 1) := by decide +kernel
theorem d7_append_36 : decode b7_append 36 = .ok (.iadd, 1) := by decide +kernel
theorem d7_append_37 : decode b7_append 37 = .ok (.putfield 15, 3) := by decide +kernel
theorem d7_append_40 : decode b7_append 40 = .ok (.iinc 2 (-8), 3) := by decide +kernel
theorem d7_append_43 : decode b7_append 43 = .ok (.goto (-40), 3) := by decide +kernel
theorem d7_append_46 : decode b7_append 46 = .ok (.return_, 1) := by decide +kernel
theorem fl_7_15 : Cond.fieldLink cn_7 15 (ft_7 1).1 (ft_7 1).2.1 (ft_7 1).2.2.1 ∈ ce_cm := ce_cm_of (List.mem_of_getElem? (i := 130) (by decide +kernel)) (by decide +kernel)
theorem gf_7_15 (C : ce_Cx p s m args c meth cc nL ret cn_7 D ad cA B0 (ce_St aK aV B0)) (hH : ce_H D ad cA B0 X s h H locs) (hdg : decode cc pc = .ok (.getfield 15, 3)) (kk : W p l e0 R s m args below meth c H locs cells slots Q (F0 m (pc + 3) ls (.int (h 2 1) :: rest))) : W p l e0 R s m args below meth c H locs cells slots Q (F0 m pc ls (.ref (ad 2) :: rest)) := by
  exact ce_get C hH (k := 2) (ci := 7) (j := 1) (N := 2) (sj := none) (by decide) rfl rfl fw_7 (by decide) fl_7_15 rfl hdg kk
theorem pf_7_15 (C : ce_Cx p s m args c meth cc nL ret cn_7 D ad cA B0 (ce_St aK aV B0)) (hH : ce_H D ad cA B0 X s h H locs) {x : Int32} (hdg : decode cc pc = .ok (.putfield 15, 3)) (kk : ∀ (H1 : Heap) (locs1 : List Loc), ce_H D ad cA B0 X s (hp_up h 2 1 x) H1 locs1 → W p l e0 R s m args below meth c H1 locs1 cells slots Q (F0 m (pc + 3) ls rest)) : W p l e0 R s m args below meth c H locs cells slots Q (F0 m pc ls (.int x :: .ref (ad 2) :: rest)) := by
  exact ce_put C hH (k := 2) (ci := 7) (j := 1) (N := 2) (fy := fy_7) (sj := none) x (by decide) rfl rfl fw_7 fo_7 fn_7 (by decide) fl_7_15 rfl rfl (v := .int x) (by simp [ce_slot, upd]) rfl rfl hdg kk
theorem fl_7_9 : Cond.fieldLink cn_7 9 (ft_7 0).1 (ft_7 0).2.1 (ft_7 0).2.2.1 ∈ ce_cm := ce_cm_of (List.mem_of_getElem? (i := 129) (by decide +kernel)) (by decide +kernel)
theorem gf_7_9 (C : ce_Cx p s m args c meth cc nL ret cn_7 D ad cA B0 (ce_St aK aV B0)) (hH : ce_H D ad cA B0 X s h H locs) (hdg : decode cc pc = .ok (.getfield 9, 3)) (kk : W p l e0 R s m args below meth c H locs cells slots Q (F0 m (pc + 3) ls (.ref (ad 3) :: rest))) : W p l e0 R s m args below meth c H locs cells slots Q (F0 m pc ls (.ref (ad 2) :: rest)) := by
  exact ce_get C hH (k := 2) (ci := 7) (j := 0) (N := 2) (sj := some (some 3)) (by decide) rfl rfl fw_7 (by decide) fl_7_9 rfl hdg kk
theorem lc_3 : 3 < 96 ∧ ce_lay 3 = .inl (1, 700) := ⟨by decide, rfl⟩
def f7_append_b3 (F : Nat) (x1 : Int32) (x2 : Int32) (h : Hp) : Option ((Int32 × Hp) ⊕ (Hp)) :=
  if x2 < 0 then
    some (.inr h)
  else
    if (700 : Int32) ≤ (h 2 1) then
      some (.inl (x2 + (-8 : Int32), h))
    else
      if ce_in (h 2 1) 700 = true then
        ce_nm (hp_up h 3 ((h 2 1)).toNatClampNeg (vp_nar .byte (((ce_ushr x1 x2)).toInt8.toInt32))) (fun h_29 =>
          ce_nm (hp_up h_29 2 1 ((h_29 2 1) + (1 : Int32))) (fun h_37 =>
            some (.inl (x2 + (-8 : Int32), h_37))))
      else none
set_option maxRecDepth 20000 in
theorem l7_append_3 (C : ce_Cx p s m args c meth b7_append 3 none cn_7 D ad cA B0 (ce_St aK aV B0)) (F : Nat) (x1 : Int32)  (r : Hp) (g : (Hp) → Option (Hp)) (hx : ∀  (h : Hp) (H : Heap) (locs : List Loc) (ls : Array Slot), ce_H D ad cA B0 [] s h H locs → lv_has ls 3 [] → g h = some r → W p l e0 { frames := 0, cells := 0, slots := 0, locals := 0 } s m args below meth c H locs 0 0 (MQ below (ce_Q D ad cA B0 (ce_St aK aV B0) none r) args s 0 0 (fun q => B0 ≤ q)) (F0 m 46 ls [])) : ∀ (n : Nat) (x2 : Int32) (h : Hp) (H : Heap) (locs : List Loc) (ls : Array Slot), ce_H D ad cA B0 [] s h H locs → lv_has ls 3 [(0, .ref (ad 2)), (1, .int x1), (2, .int x2)] → Option.bind (ce_it (fun (st : Int32 × Hp) => f7_append_b3 F x1 st.1 st.2) n (x2, h)) g = some r → W p l e0 { frames := 0, cells := 0, slots := 0, locals := 0 } s m args below meth c H locs 0 0 (MQ below (ce_Q D ad cA B0 (ce_St aK aV B0) none r) args s 0 0 (fun q => B0 ≤ q)) (F0 m 3 ls []) := by
  intro n
  induction n with
  | zero =>
    intro x2 h H locs ls hH hl e
    exact absurd e (fun z => by cases z)
  | succ n ih =>
    intro x2 h H locs ls hH hl e
    have hx9 := C.1
    have hb := C.2.1
    have e : Option.bind (f7_append_b3 F x1 x2 h) _ = some r := ce_it_bd e
    unfold f7_append_b3 at e
    refine lv_iload_n hx9 hb d7_append_3 rfl (lv_at hl 2 rfl) ?_
    refine lv_if_lt (tgt := 46) hx9 hb d7_append_4 (by decide) (fun hc4 => ?_) (fun hc4 => ?_)
    · have e := ce_if1 e hc4
      exact hx  h _ _ _ hH (lv_sub hl [] rfl) e
    · have e := ce_if0 e hc4
      refine lv_aload_n hx9 hb d7_append_7 rfl (lv_at hl 0 rfl) ?_
      refine gf_7_15 C hH d7_append_8 ?_
      refine lv_sipush (v := (700 : Int32)) hx9 hb d7_append_11 (by decide) ?_
      refine lv_icmp_ge (tgt := 40) hx9 hb d7_append_14 (by decide) (fun hc14 => ?_) (fun hc14 => ?_)
      · have e := ce_if1 e hc14
        refine lv_iinc (v := x2 + (-8 : Int32)) (lv' := [(2, .int (x2 + (-8 : Int32))), (0, .ref (ad 2)), (1, .int x1)]) hx9 hb d7_append_40 hl (k := 2) rfl rfl (by decide) rfl (fun ls hl => ?_)
        refine lv_goto (tgt := 3) hx9 hb d7_append_43 (by decide) ?_
        exact ih (x2 + (-8 : Int32)) h _ _ _ hH (lv_sub hl [1, 2, 0] rfl) e
      · have e := ce_if0 e hc14
        refine lv_aload_n hx9 hb d7_append_17 rfl (lv_at hl 0 rfl) ?_
        refine gf_7_9 C hH d7_append_18 ?_
        refine lv_aload_n hx9 hb d7_append_21 rfl (lv_at hl 0 rfl) ?_
        refine gf_7_15 C hH d7_append_22 ?_
        refine lv_iload_n hx9 hb d7_append_25 rfl (lv_at hl 1 rfl) ?_
        refine lv_iload_n hx9 hb d7_append_26 rfl (lv_at hl 2 rfl) ?_
        refine lv_iushr (v := ce_ushr x1 x2) hx9 hb d7_append_27 rfl ?_
        refine lv_i2b (v := ((ce_ushr x1 x2)).toInt8.toInt32) hx9 hb d7_append_28 rfl ?_
        obtain ⟨hi29, e⟩ := ce_gd e
        refine ce_bast C hH lc_3.1 lc_3.2 (ce_in_vp hi29) d7_append_29 (fun H locs hH => ?_)
        obtain ⟨h_29, eh_29, e⟩ := ce_nmE e
        rw [← eh_29] at hH
        refine lv_aload_n hx9 hb d7_append_30 rfl (lv_at hl 0 rfl) ?_
        refine lv_dup hx9 hb d7_append_31 rfl ?_
        refine gf_7_15 C hH d7_append_32 ?_
        refine lv_iconst (v := (1 : Int32)) hx9 hb d7_append_35 (by decide) ?_
        refine lv_iadd hx9 hb d7_append_36 ?_
        refine pf_7_15 C hH d7_append_37 (fun H locs hH => ?_)
        obtain ⟨h_37, eh_37, e⟩ := ce_nmE e
        rw [← eh_37] at hH
        refine lv_iinc (v := x2 + (-8 : Int32)) (lv' := [(2, .int (x2 + (-8 : Int32))), (0, .ref (ad 2)), (1, .int x1)]) hx9 hb d7_append_40 hl (k := 2) rfl rfl (by decide) rfl (fun ls hl => ?_)
        refine lv_goto (tgt := 3) hx9 hb d7_append_43 (by decide) ?_
        exact ih (x2 + (-8 : Int32)) h_37 _ _ _ hH (lv_sub hl [1, 2, 0] rfl) e
def f7_append (F : Nat) (x1 : Int32) (h : Hp) : Option (Hp) :=
  Option.bind (ce_it (fun (st : Int32 × Hp) => f7_append_b3 F x1 st.1 st.2) F ((24 : Int32), h)) (fun o3 =>
    some o3)
set_option maxRecDepth 20000 in
theorem c7_append (l : Launch) (D : va_G) (ad : Nat → Nat) (cA : Nat → ClassId) (aK aV : Nat → Nat) (B0 : Nat) (hA : ce_Ad ad B0) (F : Nat) (x1 : Int32)  (h : Hp) (r : Hp) (e : f7_append F x1 h = some r) : ce_Ct l D ad cA B0 (ce_St aK aV B0) y7_append b7_append 3 none 0 0 0 0 [.ref (ad 2), .int x1] h none r := by
  refine ce_enter hA (by decide) rfl (Nat.le_of_ble_eq_true rfl) (fun p e0 s m below meth c ls C hH hl => ?_)
  have hl : lv_has ls 3 [(0, .ref (ad 2)), (1, .int x1)] := hl
  have hx := C.1
  have hb := C.2.1
  have e : Option.bind _ some = some r := (congrArg (fun z => Option.bind z some) e).trans rfl
  unfold f7_append at e
  refine lv_bipush (v := (24 : Int32)) hx hb d7_append_0 (by decide) ?_
  refine lv_istore_n (lv' := [(2, .int (24 : Int32)), (0, .ref (ad 2)), (1, .int x1)]) hx hb d7_append_2 rfl hl (by decide) rfl (fun ls hl => ?_)
  refine l7_append_3 C F x1  r _ (fun  h_3 H locs ls hH hl e => ?_) F (24 : Int32) h _ _ _ hH (lv_sub hl [1, 2, 0] rfl) (ce_as e)
  try dsimp only at e
  exact ce_vret C (ce_sok aK aV B0) hH (Option.some.inj e) d7_append_46
abbrev b7_byteAt : ByteArray := prog_9_method_3_code
def y7_byteAt : MethodName := ⟨cn_7, "byteAt", "(I)I"⟩
theorem d7_byteAt_0 : decode b7_byteAt 0 = .ok (.iload_n 1, 1) := by decide +kernel
theorem d7_byteAt_1 : decode b7_byteAt 1 = .ok (.ifCond .lt 11, 3) := by decide +kernel
theorem d7_byteAt_4 : decode b7_byteAt 4 = .ok (.iload_n 1, 1) := by decide +kernel
theorem d7_byteAt_5 : decode b7_byteAt 5 = .ok (.aload_n 0, 1) := by decide +kernel
theorem d7_byteAt_6 : decode b7_byteAt 6 = .ok (.getfield 15, 3) := by decide +kernel
theorem d7_byteAt_9 : decode b7_byteAt 9 = .ok (.if_icmp .lt 7, 3) := by decide +kernel
theorem d7_byteAt_12 : decode b7_byteAt 12 = .ok (.iconst (-1), 1) := by decide +kernel
theorem d7_byteAt_13 : decode b7_byteAt 13 = .ok (.goto 13, 3) := by decide +kernel
theorem d7_byteAt_16 : decode b7_byteAt 16 = .ok (.aload_n 0, 1) := by decide +kernel
theorem d7_byteAt_17 : decode b7_byteAt 17 = .ok (.getfield 9, 3) := by decide +kernel
theorem d7_byteAt_20 : decode b7_byteAt 20 = .ok (.iload_n 1, 1) := by decide +kernel
theorem d7_byteAt_21 : decode b7_byteAt 21 = .ok (.baload, 1) := by decide +kernel
theorem d7_byteAt_22 : decode b7_byteAt 22 = .ok (.sipush 255, 3) := by decide +kernel
theorem d7_byteAt_25 : decode b7_byteAt 25 = .ok (.iand, 1) := by decide +kernel
theorem d7_byteAt_26 : decode b7_byteAt 26 = .ok (.ireturn, 1) := by decide +kernel
def f7_byteAt (F : Nat) (x1 : Int32) (h : Hp) : Option (Int32 × Hp) :=
  if x1 < 0 then
    some ((-1 : Int32), h)
  else
    if x1 < (h 2 1) then
      if ce_in x1 700 = true then
        some ((h 3 (x1).toNatClampNeg) &&& (255 : Int32), h)
      else none
    else
      some ((-1 : Int32), h)
set_option maxRecDepth 20000 in
theorem c7_byteAt (l : Launch) (D : va_G) (ad : Nat → Nat) (cA : Nat → ClassId) (aK aV : Nat → Nat) (B0 : Nat) (hA : ce_Ad ad B0) (F : Nat) (x1 : Int32)  (h : Hp) (r : Int32 × Hp) (e : f7_byteAt F x1 h = some r) : ce_Ct l D ad cA B0 (ce_St aK aV B0) y7_byteAt b7_byteAt 2 (some .int) 0 0 0 0 [.ref (ad 2), .int x1] h (some (.int r.1)) r.2 := by
  refine ce_enter hA (by decide) rfl (Nat.le_of_ble_eq_true rfl) (fun p e0 s m below meth c ls C hH hl => ?_)
  have hl : lv_has ls 2 [(0, .ref (ad 2)), (1, .int x1)] := hl
  have hx := C.1
  have hb := C.2.1
  have e : Option.bind _ some = some r := (congrArg (fun z => Option.bind z some) e).trans rfl
  unfold f7_byteAt at e
  refine lv_iload_n hx hb d7_byteAt_0 rfl (lv_at hl 1 rfl) ?_
  refine lv_if_lt (tgt := 12) hx hb d7_byteAt_1 (by decide) (fun hc1 => ?_) (fun hc1 => ?_)
  · have e := ce_if1 e hc1
    refine lv_iconst (v := (-1 : Int32)) hx hb d7_byteAt_12 (by decide) ?_
    refine lv_goto (tgt := 26) hx hb d7_byteAt_13 (by decide) ?_
    exact ce_iretE C (ce_sok aK aV B0) hH e d7_byteAt_26
  · have e := ce_if0 e hc1
    refine lv_iload_n hx hb d7_byteAt_4 rfl (lv_at hl 1 rfl) ?_
    refine lv_aload_n hx hb d7_byteAt_5 rfl (lv_at hl 0 rfl) ?_
    refine gf_7_15 C hH d7_byteAt_6 ?_
    refine lv_icmp_lt (tgt := 16) hx hb d7_byteAt_9 (by decide) (fun hc9 => ?_) (fun hc9 => ?_)
    · have e := ce_if1 e hc9
      refine lv_aload_n hx hb d7_byteAt_16 rfl (lv_at hl 0 rfl) ?_
      refine gf_7_9 C hH d7_byteAt_17 ?_
      refine lv_iload_n hx hb d7_byteAt_20 rfl (lv_at hl 1 rfl) ?_
      obtain ⟨hi21, e⟩ := ce_gd e
      refine ce_bald C hH lc_3.1 lc_3.2 (ce_in_vp hi21) d7_byteAt_21 ?_
      refine lv_sipush (v := (255 : Int32)) hx hb d7_byteAt_22 (by decide) ?_
      refine lv_iand hx hb d7_byteAt_25 ?_
      exact ce_iretE C (ce_sok aK aV B0) hH e d7_byteAt_26
    · have e := ce_if0 e hc9
      refine lv_iconst (v := (-1 : Int32)) hx hb d7_byteAt_12 (by decide) ?_
      refine lv_goto (tgt := 26) hx hb d7_byteAt_13 (by decide) ?_
      exact ce_iretE C (ce_sok aK aV B0) hH e d7_byteAt_26
abbrev b0_areFull : ByteArray := prog_2_method_2_code
def y0_areFull : MethodName := ⟨cn_0, "areFull", "()Z"⟩
theorem d0_areFull_0 : decode b0_areFull 0 = .ok (.aload_n 0, 1) := by decide +kernel
theorem d0_areFull_1 : decode b0_areFull 1 = .ok (.getfield 9, 3) := by decide +kernel
theorem d0_areFull_4 : decode b0_areFull 4 = .ok (.bipush 20, 2) := by decide +kernel
theorem d0_areFull_6 : decode b0_areFull 6 = .ok (.if_icmp .lt 7, 3) := by decide +kernel
theorem d0_areFull_9 : decode b0_areFull 9 = .ok (.iconst 1, 1) := by decide +kernel
theorem d0_areFull_10 : decode b0_areFull 10 = .ok (.goto 4, 3) := by decide +kernel
theorem d0_areFull_13 : decode b0_areFull 13 = .ok (.iconst 0, 1) := by decide +kernel
theorem d0_areFull_14 : decode b0_areFull 14 = .ok (.ireturn, 1) := by decide +kernel
theorem fl_0_9 : Cond.fieldLink cn_0 9 (ft_0 0).1 (ft_0 0).2.1 (ft_0 0).2.2.1 ∈ ce_cm := ce_cm_of (List.mem_of_getElem? (i := 308) (by decide +kernel)) (by decide +kernel)
theorem gf_0_9 (C : ce_Cx p s m args c meth cc nL ret cn_0 D ad cA B0 (ce_St aK aV B0)) (hH : ce_H D ad cA B0 X s h H locs) (hdg : decode cc pc = .ok (.getfield 9, 3)) (kk : W p l e0 R s m args below meth c H locs cells slots Q (F0 m (pc + 3) ls (.int (h 35 0) :: rest))) : W p l e0 R s m args below meth c H locs cells slots Q (F0 m pc ls (.ref (ad 35) :: rest)) := by
  exact ce_get C hH (k := 35) (ci := 0) (j := 0) (N := 5) (sj := none) (by decide) rfl rfl fw_0 (by decide) fl_0_9 rfl hdg kk
theorem pf_0_9 (C : ce_Cx p s m args c meth cc nL ret cn_0 D ad cA B0 (ce_St aK aV B0)) (hH : ce_H D ad cA B0 X s h H locs) {x : Int32} (hdg : decode cc pc = .ok (.putfield 9, 3)) (kk : ∀ (H1 : Heap) (locs1 : List Loc), ce_H D ad cA B0 X s (hp_up h 35 0 x) H1 locs1 → W p l e0 R s m args below meth c H1 locs1 cells slots Q (F0 m (pc + 3) ls rest)) : W p l e0 R s m args below meth c H locs cells slots Q (F0 m pc ls (.int x :: .ref (ad 35) :: rest)) := by
  exact ce_put C hH (k := 35) (ci := 0) (j := 0) (N := 5) (fy := fy_0) (sj := none) x (by decide) rfl rfl fw_0 fo_0 fn_0 (by decide) fl_0_9 rfl rfl (v := .int x) (by simp [ce_slot, upd]) rfl rfl hdg kk
def f0_areFull (F : Nat)  (h : Hp) : Option (Int32 × Hp) :=
  if (h 35 0) < (20 : Int32) then
    some ((0 : Int32), h)
  else
    some ((1 : Int32), h)
set_option maxRecDepth 20000 in
theorem c0_areFull (l : Launch) (D : va_G) (ad : Nat → Nat) (cA : Nat → ClassId) (aK aV : Nat → Nat) (B0 : Nat) (hA : ce_Ad ad B0) (F : Nat)   (h : Hp) (r : Int32 × Hp) (e : f0_areFull F  h = some r) : ce_Ct l D ad cA B0 (ce_St aK aV B0) y0_areFull b0_areFull 1 (some .boolean) 0 0 0 0 [.ref (ad 35)] h (some (.int r.1)) r.2 := by
  refine ce_enter hA (by decide) rfl (Nat.le_of_ble_eq_true rfl) (fun p e0 s m below meth c ls C hH hl => ?_)
  have hl : lv_has ls 1 [(0, .ref (ad 35))] := hl
  have hx := C.1
  have hb := C.2.1
  have e : Option.bind _ some = some r := (congrArg (fun z => Option.bind z some) e).trans rfl
  unfold f0_areFull at e
  refine lv_aload_n hx hb d0_areFull_0 rfl (lv_at hl 0 rfl) ?_
  refine gf_0_9 C hH d0_areFull_1 ?_
  refine lv_bipush (v := (20 : Int32)) hx hb d0_areFull_4 (by decide) ?_
  refine lv_icmp_lt (tgt := 13) hx hb d0_areFull_6 (by decide) (fun hc6 => ?_) (fun hc6 => ?_)
  · have e := ce_if1 e hc6
    refine lv_iconst (v := (0 : Int32)) hx hb d0_areFull_13 (by decide) ?_
    exact ce_zretE C (ce_sok aK aV B0) hH (Or.inl rfl) e d0_areFull_14
  · have e := ce_if0 e hc6
    refine lv_iconst (v := (1 : Int32)) hx hb d0_areFull_9 (by decide) ?_
    refine lv_goto (tgt := 14) hx hb d0_areFull_10 (by decide) ?_
    exact ce_zretE C (ce_sok aK aV B0) hH (Or.inr rfl) e d0_areFull_14
abbrev b0_keep : ByteArray := prog_2_method_3_code
def y0_keep : MethodName := ⟨cn_0, "keep", "(IIII)V"⟩
theorem d0_keep_0 : decode b0_keep 0 = .ok (.aload_n 0, 1) := by decide +kernel
theorem d0_keep_1 : decode b0_keep 1 = .ok (.invokevirtual 28, 3) := by decide +kernel
theorem d0_keep_4 : decode b0_keep 4 = .ok (.ifCond .ne 54, 3) := by decide +kernel
theorem d0_keep_7 : decode b0_keep 7 = .ok (.aload_n 0, 1) := by decide +kernel
theorem d0_keep_8 : decode b0_keep 8 = .ok (.getfield 15, 3) := by decide +kernel
theorem d0_keep_11 : decode b0_keep 11 = .ok (.aload_n 0, 1) := by decide +kernel
theorem d0_keep_12 : decode b0_keep 12 = .ok (.getfield 9, 3) := by decide +kernel
theorem d0_keep_15 : decode b0_keep 15 = .ok (.iload_n 1, 1) := by decide +kernel
theorem d0_keep_16 : decode b0_keep 16 = .ok (.iastore, 1) := by decide +kernel
theorem d0_keep_17 : decode b0_keep 17 = .ok (.aload_n 0, 1) := by decide +kernel
theorem d0_keep_18 : decode b0_keep 18 = .ok (.getfield 19, 3) := by decide +kernel
theorem d0_keep_21 : decode b0_keep 21 = .ok (.aload_n 0, 1) := by decide +kernel
theorem d0_keep_22 : decode b0_keep 22 = .ok (.getfield 9, 3) := by decide +kernel
theorem d0_keep_25 : decode b0_keep 25 = .ok (.iload_n 2, 1) := by decide +kernel
theorem d0_keep_26 : decode b0_keep 26 = .ok (.iastore, 1) := by decide +kernel
theorem d0_keep_27 : decode b0_keep 27 = .ok (.aload_n 0, 1) := by decide +kernel
theorem d0_keep_28 : decode b0_keep 28 = .ok (.getfield 22, 3) := by decide +kernel
theorem d0_keep_31 : decode b0_keep 31 = .ok (.aload_n 0, 1) := by decide +kernel
theorem d0_keep_32 : decode b0_keep 32 = .ok (.getfield 9, 3) := by decide +kernel
theorem d0_keep_35 : decode b0_keep 35 = .ok (.iload_n 3, 1) := by decide +kernel
theorem d0_keep_36 : decode b0_keep 36 = .ok (.iastore, 1) := by decide +kernel
theorem d0_keep_37 : decode b0_keep 37 = .ok (.aload_n 0, 1) := by decide +kernel
theorem d0_keep_38 : decode b0_keep 38 = .ok (.getfield 25, 3) := by decide +kernel
theorem d0_keep_41 : decode b0_keep 41 = .ok (.aload_n 0, 1) := by decide +kernel
theorem d0_keep_42 : decode b0_keep 42 = .ok (.getfield 9, 3) := by decide +kernel
theorem d0_keep_45 : decode b0_keep 45 = .ok (.iload 4, 2) := by decide +kernel
theorem d0_keep_47 : decode b0_keep 47 = .ok (.iastore, 1) := by decide +kernel
theorem d0_keep_48 : decode b0_keep 48 = .ok (.aload_n 0, 1) := by decide +kernel
theorem d0_keep_49 : decode b0_keep 49 = .ok (.dup, 1) := by decide +kernel
theorem d0_keep_50 : decode b0_keep 50 = .ok (.getfield 9, 3) := by decide +kernel
theorem d0_keep_53 : decode b0_keep 53 = .ok (.iconst 1, 1) := by decide +kernel
theorem d0_keep_54 : decode b0_keep 54 = .ok (.iadd, 1) := by decide +kernel
theorem d0_keep_55 : decode b0_keep 55 = .ok (.putfield 9, 3) := by decide +kernel
theorem d0_keep_58 : decode b0_keep 58 = .ok (.return_, 1) := by decide +kernel
theorem fl_0_15 : Cond.fieldLink cn_0 15 (ft_0 1).1 (ft_0 1).2.1 (ft_0 1).2.2.1 ∈ ce_cm := ce_cm_of (List.mem_of_getElem? (i := 310) (by decide +kernel)) (by decide +kernel)
theorem gf_0_15 (C : ce_Cx p s m args c meth cc nL ret cn_0 D ad cA B0 (ce_St aK aV B0)) (hH : ce_H D ad cA B0 X s h H locs) (hdg : decode cc pc = .ok (.getfield 15, 3)) (kk : W p l e0 R s m args below meth c H locs cells slots Q (F0 m (pc + 3) ls (.ref (ad 36) :: rest))) : W p l e0 R s m args below meth c H locs cells slots Q (F0 m pc ls (.ref (ad 35) :: rest)) := by
  exact ce_get C hH (k := 35) (ci := 0) (j := 1) (N := 5) (sj := some (some 36)) (by decide) rfl rfl fw_0 (by decide) fl_0_15 rfl hdg kk
theorem lc_36 : 36 < 96 ∧ ce_lay 36 = .inl (0, 20) := ⟨by decide, rfl⟩
theorem fl_0_19 : Cond.fieldLink cn_0 19 (ft_0 2).1 (ft_0 2).2.1 (ft_0 2).2.2.1 ∈ ce_cm := ce_cm_of (List.mem_of_getElem? (i := 311) (by decide +kernel)) (by decide +kernel)
theorem gf_0_19 (C : ce_Cx p s m args c meth cc nL ret cn_0 D ad cA B0 (ce_St aK aV B0)) (hH : ce_H D ad cA B0 X s h H locs) (hdg : decode cc pc = .ok (.getfield 19, 3)) (kk : W p l e0 R s m args below meth c H locs cells slots Q (F0 m (pc + 3) ls (.ref (ad 37) :: rest))) : W p l e0 R s m args below meth c H locs cells slots Q (F0 m pc ls (.ref (ad 35) :: rest)) := by
  exact ce_get C hH (k := 35) (ci := 0) (j := 2) (N := 5) (sj := some (some 37)) (by decide) rfl rfl fw_0 (by decide) fl_0_19 rfl hdg kk
theorem lc_37 : 37 < 96 ∧ ce_lay 37 = .inl (0, 20) := ⟨by decide, rfl⟩
theorem fl_0_22 : Cond.fieldLink cn_0 22 (ft_0 3).1 (ft_0 3).2.1 (ft_0 3).2.2.1 ∈ ce_cm := ce_cm_of (List.mem_of_getElem? (i := 312) (by decide +kernel)) (by decide +kernel)
theorem gf_0_22 (C : ce_Cx p s m args c meth cc nL ret cn_0 D ad cA B0 (ce_St aK aV B0)) (hH : ce_H D ad cA B0 X s h H locs) (hdg : decode cc pc = .ok (.getfield 22, 3)) (kk : W p l e0 R s m args below meth c H locs cells slots Q (F0 m (pc + 3) ls (.ref (ad 38) :: rest))) : W p l e0 R s m args below meth c H locs cells slots Q (F0 m pc ls (.ref (ad 35) :: rest)) := by
  exact ce_get C hH (k := 35) (ci := 0) (j := 3) (N := 5) (sj := some (some 38)) (by decide) rfl rfl fw_0 (by decide) fl_0_22 rfl hdg kk
theorem lc_38 : 38 < 96 ∧ ce_lay 38 = .inl (0, 20) := ⟨by decide, rfl⟩
theorem fl_0_25 : Cond.fieldLink cn_0 25 (ft_0 4).1 (ft_0 4).2.1 (ft_0 4).2.2.1 ∈ ce_cm := ce_cm_of (List.mem_of_getElem? (i := 313) (by decide +kernel)) (by decide +kernel)
theorem gf_0_25 (C : ce_Cx p s m args c meth cc nL ret cn_0 D ad cA B0 (ce_St aK aV B0)) (hH : ce_H D ad cA B0 X s h H locs) (hdg : decode cc pc = .ok (.getfield 25, 3)) (kk : W p l e0 R s m args below meth c H locs cells slots Q (F0 m (pc + 3) ls (.ref (ad 39) :: rest))) : W p l e0 R s m args below meth c H locs cells slots Q (F0 m pc ls (.ref (ad 35) :: rest)) := by
  exact ce_get C hH (k := 35) (ci := 0) (j := 4) (N := 5) (sj := some (some 39)) (by decide) rfl rfl fw_0 (by decide) fl_0_25 rfl hdg kk
theorem lc_39 : 39 < 96 ∧ ce_lay 39 = .inl (0, 20) := ⟨by decide, rfl⟩
theorem lo_35 : 35 < 96 ∧ ∃ sl, ce_lay 35 = .inr (0, sl) := ⟨by decide, _, rfl⟩
theorem mc0_areFull : Cond.code y0_areFull b0_areFull 1 (some .boolean) ∈ ce_cm := ce_cm_of (List.mem_of_getElem? (i := 1081) (by decide +kernel)) (by decide +kernel)
theorem ml_0_28 : Cond.methodLink cn_0 28 y0_areFull ∈ ce_cm := ce_cm_of (List.mem_of_getElem? (i := 1086) (by decide +kernel)) (by decide +kernel)
theorem mi0_areFull : Cond.instanceMethod y0_areFull ∈ ce_cm := ce_cm_of (List.mem_of_getElem? (i := 1079) (by decide +kernel)) (by decide +kernel)
theorem ms0_areFull : Cond.selects cn_0 y0_areFull y0_areFull ∈ ce_cm := ce_cm_of (List.mem_of_getElem? (i := 1080) (by decide +kernel)) (by decide +kernel)
theorem mI_0 : Cond.initialized cn_0 ∈ ce_cm := ce_cm_of (List.mem_of_getElem? (i := 97) (by decide +kernel)) (by decide +kernel)
def f0_keep (F : Nat) (x1 : Int32) (x2 : Int32) (x3 : Int32) (x4 : Int32) (h : Hp) : Option (Hp) :=
  Option.bind (f0_areFull F  h) (fun o1 =>
    if o1.1 = 0 then
      if ce_in (o1.2 35 0) 20 = true then
        ce_nm (hp_up o1.2 36 ((o1.2 35 0)).toNatClampNeg x1) (fun h_16 =>
          if ce_in (h_16 35 0) 20 = true then
            ce_nm (hp_up h_16 37 ((h_16 35 0)).toNatClampNeg x2) (fun h_26 =>
              if ce_in (h_26 35 0) 20 = true then
                ce_nm (hp_up h_26 38 ((h_26 35 0)).toNatClampNeg x3) (fun h_36 =>
                  if ce_in (h_36 35 0) 20 = true then
                    ce_nm (hp_up h_36 39 ((h_36 35 0)).toNatClampNeg x4) (fun h_47 =>
                      ce_nm (hp_up h_47 35 0 ((h_47 35 0) + (1 : Int32))) (fun h_55 =>
                        some h_55))
                  else none)
              else none)
          else none)
      else none
    else
      some o1.2)
set_option maxRecDepth 20000 in
theorem c0_keep (l : Launch) (D : va_G) (ad : Nat → Nat) (cA : Nat → ClassId) (aK aV : Nat → Nat) (B0 : Nat) (hA : ce_Ad ad B0) (F : Nat) (x1 : Int32) (x2 : Int32) (x3 : Int32) (x4 : Int32)  (h : Hp) (r : Hp) (e : f0_keep F x1 x2 x3 x4 h = some r) : ce_Ct l D ad cA B0 (ce_St aK aV B0) y0_keep b0_keep 5 none 1 20 0 0 [.ref (ad 35), .int x1, .int x2, .int x3, .int x4] h none r := by
  refine ce_enter hA (by decide) rfl (Nat.le_of_ble_eq_true rfl) (fun p e0 s m below meth c ls C hH hl => ?_)
  have hl : lv_has ls 5 [(0, .ref (ad 35)), (1, .int x1), (2, .int x2), (3, .int x3), (4, .int x4)] := hl
  have hx := C.1
  have hb := C.2.1
  have e : Option.bind _ some = some r := (congrArg (fun z => Option.bind z some) e).trans rfl
  unfold f0_keep at e
  refine lv_aload_n hx hb d0_keep_0 rfl (lv_at hl 0 rfl) ?_
  obtain ⟨o1, eo1, e⟩ := ce_bd e
  refine ce_callV (As := []) (rest := []) C (ce_sok aK aV B0) hH (c0_areFull l D ad cA aK aV B0 C.2.2.2.2.2.2.1 F   h o1 eo1) lo_35.1 lo_35.2.choose_spec rfl rfl mc0_areFull ml_0_28 mi0_areFull ms0_areFull mI_0 (n := 0) (by decide) rfl ⟨Nat.le_of_ble_eq_true rfl, Nat.le_of_ble_eq_true rfl⟩ ⟨Nat.le_of_ble_eq_true rfl, Nat.le_of_ble_eq_true rfl⟩ hl.1 rfl (Nat.le_of_ble_eq_true rfl) d0_keep_1 (fun H locs hH => ?_)
  refine W.eq (g2 := F0 m 4 ls [.int o1.1]) rfl ?_
  refine lv_if_ne (tgt := 58) hx hb d0_keep_4 (by decide) (fun hc4 => ?_) (fun hc4 => ?_)
  · have e := ce_if0 e hc4
    exact ce_vret C (ce_sok aK aV B0) hH (Option.some.inj e) d0_keep_58
  · have e := ce_if1 e hc4
    refine lv_aload_n hx hb d0_keep_7 rfl (lv_at hl 0 rfl) ?_
    refine gf_0_15 C hH d0_keep_8 ?_
    refine lv_aload_n hx hb d0_keep_11 rfl (lv_at hl 0 rfl) ?_
    refine gf_0_9 C hH d0_keep_12 ?_
    refine lv_iload_n hx hb d0_keep_15 rfl (lv_at hl 1 rfl) ?_
    obtain ⟨hi16, e⟩ := ce_gd e
    refine ce_iast C hH lc_36.1 lc_36.2 (ce_in_vp hi16) d0_keep_16 (fun H locs hH => ?_)
    obtain ⟨h_16, eh_16, e⟩ := ce_nmE e
    rw [← eh_16] at hH
    refine lv_aload_n hx hb d0_keep_17 rfl (lv_at hl 0 rfl) ?_
    refine gf_0_19 C hH d0_keep_18 ?_
    refine lv_aload_n hx hb d0_keep_21 rfl (lv_at hl 0 rfl) ?_
    refine gf_0_9 C hH d0_keep_22 ?_
    refine lv_iload_n hx hb d0_keep_25 rfl (lv_at hl 2 rfl) ?_
    obtain ⟨hi26, e⟩ := ce_gd e
    refine ce_iast C hH lc_37.1 lc_37.2 (ce_in_vp hi26) d0_keep_26 (fun H locs hH => ?_)
    obtain ⟨h_26, eh_26, e⟩ := ce_nmE e
    rw [← eh_26] at hH
    refine lv_aload_n hx hb d0_keep_27 rfl (lv_at hl 0 rfl) ?_
    refine gf_0_22 C hH d0_keep_28 ?_
    refine lv_aload_n hx hb d0_keep_31 rfl (lv_at hl 0 rfl) ?_
    refine gf_0_9 C hH d0_keep_32 ?_
    refine lv_iload_n hx hb d0_keep_35 rfl (lv_at hl 3 rfl) ?_
    obtain ⟨hi36, e⟩ := ce_gd e
    refine ce_iast C hH lc_38.1 lc_38.2 (ce_in_vp hi36) d0_keep_36 (fun H locs hH => ?_)
    obtain ⟨h_36, eh_36, e⟩ := ce_nmE e
    rw [← eh_36] at hH
    refine lv_aload_n hx hb d0_keep_37 rfl (lv_at hl 0 rfl) ?_
    refine gf_0_25 C hH d0_keep_38 ?_
    refine lv_aload_n hx hb d0_keep_41 rfl (lv_at hl 0 rfl) ?_
    refine gf_0_9 C hH d0_keep_42 ?_
    refine lv_iload hx hb d0_keep_45 (lv_at hl 4 rfl) ?_
    obtain ⟨hi47, e⟩ := ce_gd e
    refine ce_iast C hH lc_39.1 lc_39.2 (ce_in_vp hi47) d0_keep_47 (fun H locs hH => ?_)
    obtain ⟨h_47, eh_47, e⟩ := ce_nmE e
    rw [← eh_47] at hH
    refine lv_aload_n hx hb d0_keep_48 rfl (lv_at hl 0 rfl) ?_
    refine lv_dup hx hb d0_keep_49 rfl ?_
    refine gf_0_9 C hH d0_keep_50 ?_
    refine lv_iconst (v := (1 : Int32)) hx hb d0_keep_53 (by decide) ?_
    refine lv_iadd hx hb d0_keep_54 ?_
    refine pf_0_9 C hH d0_keep_55 (fun H locs hH => ?_)
    obtain ⟨h_55, eh_55, e⟩ := ce_nmE e
    rw [← eh_55] at hH
    exact ce_vret C (ce_sok aK aV B0) hH (Option.some.inj e) d0_keep_58
abbrev b0_takeBack : ByteArray := prog_2_method_4_code
def y0_takeBack : MethodName := ⟨cn_0, "takeBack", "(LCableElection$Net;)V"⟩
theorem d0_takeBack_0 : decode b0_takeBack 0 = .ok (.aload_n 0, 1) := by decide +kernel
theorem d0_takeBack_1 : decode b0_takeBack 1 = .ok (.getfield 9, 3) := by decide +kernel
theorem d0_takeBack_4 : decode b0_takeBack 4 = .ok (.ifCond .ne 4, 3) := by decide +kernel
theorem d0_takeBack_7 : decode b0_takeBack 7 = .ok (.return_, 1) := by decide +kernel
theorem d0_takeBack_8 : decode b0_takeBack 8 = .ok (.aload_n 0, 1) := by decide +kernel
theorem d0_takeBack_9 : decode b0_takeBack 9 = .ok (.dup, 1) := by decide +kernel
theorem d0_takeBack_10 : decode b0_takeBack 10 = .ok (.getfield 9, 3) := by decide +kernel
theorem d0_takeBack_13 : decode b0_takeBack 13 = .ok (.iconst 1, 1) := by decide +kernel
theorem d0_takeBack_14 : decode b0_takeBack 14 = .ok (.isub, 1) := by decide +kernel
theorem d0_takeBack_15 : decode b0_takeBack 15 = .ok (.putfield 9, 3) := by decide +kernel
theorem d0_takeBack_18 : decode b0_takeBack 18 = .ok (.aload_n 0, 1) := by decide +kernel
theorem d0_takeBack_19 : decode b0_takeBack 19 = .ok (.getfield 19, 3) := by decide +kernel
theorem d0_takeBack_22 : decode b0_takeBack 22 = .ok (.aload_n 0, 1) := by decide +kernel
theorem d0_takeBack_23 : decode b0_takeBack 23 = .ok (.getfield 9, 3) := by decide +kernel
theorem d0_takeBack_26 : decode b0_takeBack 26 = .ok (.iaload, 1) := by decide +kernel
theorem d0_takeBack_27 : decode b0_takeBack 27 = .ok (.istore_n 2, 1) := by decide +kernel
theorem d0_takeBack_28 : decode b0_takeBack 28 = .ok (.aload_n 0, 1) := by decide +kernel
theorem d0_takeBack_29 : decode b0_takeBack 29 = .ok (.getfield 15, 3) := by decide +kernel
theorem d0_takeBack_32 : decode b0_takeBack 32 = .ok (.aload_n 0, 1) := by decide +kernel
theorem d0_takeBack_33 : decode b0_takeBack 33 = .ok (.getfield 9, 3) := by decide +kernel
theorem d0_takeBack_36 : decode b0_takeBack 36 = .ok (.iaload, 1) := by decide +kernel
theorem d0_takeBack_37 : decode b0_takeBack 37 = .ok (.ifCond .ne 11, 3) := by decide +kernel
theorem d0_takeBack_40 : decode b0_takeBack 40 = .ok (.aload_n 1, 1) := by decide +kernel
theorem d0_takeBack_41 : decode b0_takeBack 41 = .ok (.iload_n 2, 1) := by decide +kernel
theorem d0_takeBack_42 : decode b0_takeBack 42 = .ok (.invokevirtual 32, 3) := by decide +kernel
theorem d0_takeBack_45 : decode b0_takeBack 45 = .ok (.goto 70, 3) := by decide +kernel
theorem d0_takeBack_48 : decode b0_takeBack 48 = .ok (.aload_n 0, 1) := by decide +kernel
theorem d0_takeBack_49 : decode b0_takeBack 49 = .ok (.getfield 15, 3) := by decide +kernel
theorem d0_takeBack_52 : decode b0_takeBack 52 = .ok (.aload_n 0, 1) := by decide +kernel
theorem d0_takeBack_53 : decode b0_takeBack 53 = .ok (.getfield 9, 3) := by decide +kernel
theorem d0_takeBack_56 : decode b0_takeBack 56 = .ok (.iaload, 1) := by decide +kernel
theorem d0_takeBack_57 : decode b0_takeBack 57 = .ok (.iconst 1, 1) := by decide +kernel
theorem d0_takeBack_58 : decode b0_takeBack 58 = .ok (.if_icmp .ne 29, 3) := by decide +kernel
theorem d0_takeBack_61 : decode b0_takeBack 61 = .ok (.aload_n 1, 1) := by decide +kernel
theorem d0_takeBack_62 : decode b0_takeBack 62 = .ok (.iload_n 2, 1) := by decide +kernel
theorem d0_takeBack_63 : decode b0_takeBack 63 = .ok (.aload_n 0, 1) := by decide +kernel
theorem d0_takeBack_64 : decode b0_takeBack 64 = .ok (.getfield 22, 3) := by decide +kernel
theorem d0_takeBack_67 : decode b0_takeBack 67 = .ok (.aload_n 0, 1) := by decide +kernel
theorem d0_takeBack_68 : decode b0_takeBack 68 = .ok (.getfield 9, 3) := by decide +kernel
theorem d0_takeBack_71 : decode b0_takeBack 71 = .ok (.iaload, 1) := by decide +kernel
theorem d0_takeBack_72 : decode b0_takeBack 72 = .ok (.aload_n 0, 1) := by decide +kernel
theorem d0_takeBack_73 : decode b0_takeBack 73 = .ok (.getfield 25, 3) := by decide +kernel
theorem d0_takeBack_76 : decode b0_takeBack 76 = .ok (.aload_n 0, 1) := by decide +kernel
theorem d0_takeBack_77 : decode b0_takeBack 77 = .ok (.getfield 9, 3) := by decide +kernel
theorem d0_takeBack_80 : decode b0_takeBack 80 = .ok (.iaload, 1) := by decide +kernel
theorem d0_takeBack_81 : decode b0_takeBack 81 = .ok (.invokevirtual 38, 3) := by decide +kernel
theorem d0_takeBack_84 : decode b0_takeBack 84 = .ok (.goto 31, 3) := by decide +kernel
theorem d0_takeBack_87 : decode b0_takeBack 87 = .ok (.aload_n 1, 1) := by decide +kernel
theorem d0_takeBack_88 : decode b0_takeBack 88 = .ok (.iload_n 2, 1) := by decide +kernel
theorem d0_takeBack_89 : decode b0_takeBack 89 = .ok (.invokevirtual 42, 3) := by decide +kernel
theorem d0_takeBack_92 : decode b0_takeBack 92 = .ok (.ifCond .eq 23, 3) := by decide +kernel
theorem d0_takeBack_95 : decode b0_takeBack 95 = .ok (.aload_n 1, 1) := by decide +kernel
theorem d0_takeBack_96 : decode b0_takeBack 96 = .ok (.getfield 46, 3) := by decide +kernel
theorem d0_takeBack_99 : decode b0_takeBack 99 = .ok (.iload_n 2, 1) := by decide +kernel
theorem d0_takeBack_100 : decode b0_takeBack 100 = .ok (.aload_n 1, 1) := by decide +kernel
theorem d0_takeBack_101 : decode b0_takeBack 101 = .ok (.getfield 46, 3) := by decide +kernel
theorem d0_takeBack_104 : decode b0_takeBack 104 = .ok (.iload_n 2, 1) := by decide +kernel
theorem d0_takeBack_105 : decode b0_takeBack 105 = .ok (.baload, 1) := by decide +kernel
theorem d0_takeBack_106 : decode b0_takeBack 106 = .ok (.ifCond .ne 7, 3) := by decide +kernel
theorem d0_takeBack_109 : decode b0_takeBack 109 = .ok (.iconst 1, 1) := by decide +kernel
theorem d0_takeBack_110 : decode b0_takeBack 110 = .ok (.goto 4, 3) := by decide +kernel
theorem d0_takeBack_113 : decode b0_takeBack 113 = .ok (.iconst 0, 1) := by decide +kernel
theorem d0_takeBack_114 : decode b0_takeBack 114 = .ok (.bastore, 1) := by decide +kernel
theorem d0_takeBack_115 : decode b0_takeBack 115 = .ok (.return_, 1) := by decide +kernel
theorem fl_0_46 : Cond.fieldLink cn_0 46 (ft_5 6).1 (ft_5 6).2.1 (ft_5 6).2.2.1 ∈ ce_cm := ce_cm_of (List.mem_of_getElem? (i := 222) (by decide +kernel)) (by decide +kernel)
theorem gf_0_46 (C : ce_Cx p s m args c meth cc nL ret cn_0 D ad cA B0 (ce_St aK aV B0)) (hH : ce_H D ad cA B0 X s h H locs) {k : Nat} (hk : ce_isNet k) (hdg : decode cc pc = .ok (.getfield 46, 3)) (kk : W p l e0 R s m args below meth c H locs cells slots Q (F0 m (pc + 3) ls (.ref (ad (k + 2)) :: rest))) : W p l e0 R s m args below meth c H locs cells slots Q (F0 m pc ls (.ref (ad k) :: rest)) := by
  rcases hk with rfl | rfl
  · exact ce_get C hH (k := 7) (ci := 5) (j := 6) (N := 11) (sj := some (some 9)) (by decide) rfl rfl fw_5 (by decide) fl_0_46 rfl hdg kk
  · exact ce_get C hH (k := 14) (ci := 5) (j := 6) (N := 11) (sj := some (some 16)) (by decide) rfl rfl fw_5 (by decide) fl_0_46 rfl hdg kk
theorem ml_0_42 : Cond.methodLink cn_0 42 y5_hasNode ∈ ce_cm := ce_cm_of (List.mem_of_getElem? (i := 1110) (by decide +kernel)) (by decide +kernel)
theorem mc5_link : Cond.code y5_link b5_link 4 none ∈ ce_cm := ce_cm_of (List.mem_of_getElem? (i := 683) (by decide +kernel)) (by decide +kernel)
theorem ml_0_38 : Cond.methodLink cn_0 38 y5_link ∈ ce_cm := ce_cm_of (List.mem_of_getElem? (i := 1109) (by decide +kernel)) (by decide +kernel)
theorem mi5_link : Cond.instanceMethod y5_link ∈ ce_cm := ce_cm_of (List.mem_of_getElem? (i := 681) (by decide +kernel)) (by decide +kernel)
theorem ms5_link : Cond.selects cn_5 y5_link y5_link ∈ ce_cm := ce_cm_of (List.mem_of_getElem? (i := 682) (by decide +kernel)) (by decide +kernel)
theorem mc5_unlink : Cond.code y5_unlink b5_unlink 2 none ∈ ce_cm := ce_cm_of (List.mem_of_getElem? (i := 1095) (by decide +kernel)) (by decide +kernel)
theorem ml_0_32 : Cond.methodLink cn_0 32 y5_unlink ∈ ce_cm := ce_cm_of (List.mem_of_getElem? (i := 1108) (by decide +kernel)) (by decide +kernel)
theorem mi5_unlink : Cond.instanceMethod y5_unlink ∈ ce_cm := ce_cm_of (List.mem_of_getElem? (i := 1093) (by decide +kernel)) (by decide +kernel)
theorem ms5_unlink : Cond.selects cn_5 y5_unlink y5_unlink ∈ ce_cm := ce_cm_of (List.mem_of_getElem? (i := 1094) (by decide +kernel)) (by decide +kernel)
def f0_takeBack (F : Nat) (k1 : Nat) (h : Hp) : Option (Hp) :=
  if (h 35 0) = 0 then
    some h
  else
    ce_nm (hp_up h 35 0 ((h 35 0) - (1 : Int32))) (fun h_15 =>
      if ce_in (h_15 35 0) 20 = true then
        if ce_in (h_15 35 0) 20 = true then
          if (h_15 36 ((h_15 35 0)).toNatClampNeg) = 0 then
            Option.bind (f5_unlink F k1 (h_15 37 ((h_15 35 0)).toNatClampNeg) h_15) (fun o42 =>
              some o42)
          else
            if ce_in (h_15 35 0) 20 = true then
              if (h_15 36 ((h_15 35 0)).toNatClampNeg) = (1 : Int32) then
                if ce_in (h_15 35 0) 20 = true then
                  if ce_in (h_15 35 0) 20 = true then
                    Option.bind (f5_link F k1 (h_15 37 ((h_15 35 0)).toNatClampNeg) (h_15 38 ((h_15 35 0)).toNatClampNeg) (h_15 39 ((h_15 35 0)).toNatClampNeg) h_15) (fun o81 =>
                      some o81)
                  else none
                else none
              else
                Option.bind (f5_hasNode F k1 (h_15 37 ((h_15 35 0)).toNatClampNeg) h_15) (fun o89 =>
                  if o89.1 = 0 then
                    some o89.2
                  else
                    if ce_in (h_15 37 ((h_15 35 0)).toNatClampNeg) 10 = true then
                      if (o89.2 (k1 + 2) ((h_15 37 ((h_15 35 0)).toNatClampNeg)).toNatClampNeg) = 0 then
                        if ce_in (h_15 37 ((h_15 35 0)).toNatClampNeg) 10 = true then
                          ce_nm (hp_up o89.2 (k1 + 2) ((h_15 37 ((h_15 35 0)).toNatClampNeg)).toNatClampNeg (vp_nar .boolean (1 : Int32))) (fun h_114 =>
                            some h_114)
                        else none
                      else
                        if ce_in (h_15 37 ((h_15 35 0)).toNatClampNeg) 10 = true then
                          ce_nm (hp_up o89.2 (k1 + 2) ((h_15 37 ((h_15 35 0)).toNatClampNeg)).toNatClampNeg (vp_nar .boolean (0 : Int32))) (fun h_114 =>
                            some h_114)
                        else none
                    else none)
            else none
        else none
      else none)
set_option maxRecDepth 20000 in
theorem c0_takeBack (l : Launch) (D : va_G) (ad : Nat → Nat) (cA : Nat → ClassId) (aK aV : Nat → Nat) (B0 : Nat) (hA : ce_Ad ad B0) (F : Nat) (k1 : Nat) (hk1 : ce_isNet k1) (h : Hp) (r : Hp) (e : f0_takeBack F k1 h = some r) : ce_Ct l D ad cA B0 (ce_St aK aV B0) y0_takeBack b0_takeBack 3 none 2 42 0 0 [.ref (ad 35), .ref (ad k1)] h none r := by
  refine ce_enter hA (by decide) rfl (Nat.le_of_ble_eq_true rfl) (fun p e0 s m below meth c ls C hH hl => ?_)
  have hl : lv_has ls 3 [(0, .ref (ad 35)), (1, .ref (ad k1))] := hl
  have hx := C.1
  have hb := C.2.1
  have e : Option.bind _ some = some r := (congrArg (fun z => Option.bind z some) e).trans rfl
  unfold f0_takeBack at e
  refine lv_aload_n hx hb d0_takeBack_0 rfl (lv_at hl 0 rfl) ?_
  refine gf_0_9 C hH d0_takeBack_1 ?_
  refine lv_if_ne (tgt := 8) hx hb d0_takeBack_4 (by decide) (fun hc4 => ?_) (fun hc4 => ?_)
  · have e := ce_if0 e hc4
    refine lv_aload_n hx hb d0_takeBack_8 rfl (lv_at hl 0 rfl) ?_
    refine lv_dup hx hb d0_takeBack_9 rfl ?_
    refine gf_0_9 C hH d0_takeBack_10 ?_
    refine lv_iconst (v := (1 : Int32)) hx hb d0_takeBack_13 (by decide) ?_
    refine lv_isub hx hb d0_takeBack_14 ?_
    refine pf_0_9 C hH d0_takeBack_15 (fun H locs hH => ?_)
    obtain ⟨h_15, eh_15, e⟩ := ce_nmE e
    rw [← eh_15] at hH
    refine lv_aload_n hx hb d0_takeBack_18 rfl (lv_at hl 0 rfl) ?_
    refine gf_0_19 C hH d0_takeBack_19 ?_
    refine lv_aload_n hx hb d0_takeBack_22 rfl (lv_at hl 0 rfl) ?_
    refine gf_0_9 C hH d0_takeBack_23 ?_
    obtain ⟨hi26, e⟩ := ce_gd e
    refine ce_iald C hH lc_37.1 lc_37.2 (ce_in_vp hi26) d0_takeBack_26 ?_
    refine lv_istore_n (lv' := [(2, .int (h_15 37 ((h_15 35 0)).toNatClampNeg)), (0, .ref (ad 35)), (1, .ref (ad k1))]) hx hb d0_takeBack_27 rfl hl (by decide) rfl (fun ls hl => ?_)
    refine lv_aload_n hx hb d0_takeBack_28 rfl (lv_at hl 1 rfl) ?_
    refine gf_0_15 C hH d0_takeBack_29 ?_
    refine lv_aload_n hx hb d0_takeBack_32 rfl (lv_at hl 1 rfl) ?_
    refine gf_0_9 C hH d0_takeBack_33 ?_
    obtain ⟨hi36, e⟩ := ce_gd e
    refine ce_iald C hH lc_36.1 lc_36.2 (ce_in_vp hi36) d0_takeBack_36 ?_
    refine lv_if_ne (tgt := 48) hx hb d0_takeBack_37 (by decide) (fun hc37 => ?_) (fun hc37 => ?_)
    · have e := ce_if0 e hc37
      refine lv_aload_n hx hb d0_takeBack_48 rfl (lv_at hl 1 rfl) ?_
      refine gf_0_15 C hH d0_takeBack_49 ?_
      refine lv_aload_n hx hb d0_takeBack_52 rfl (lv_at hl 1 rfl) ?_
      refine gf_0_9 C hH d0_takeBack_53 ?_
      obtain ⟨hi56, e⟩ := ce_gd e
      refine ce_iald C hH lc_36.1 lc_36.2 (ce_in_vp hi56) d0_takeBack_56 ?_
      refine lv_iconst (v := (1 : Int32)) hx hb d0_takeBack_57 (by decide) ?_
      refine lv_icmp_ne (tgt := 87) hx hb d0_takeBack_58 (by decide) (fun hc58 => ?_) (fun hc58 => ?_)
      · have e := ce_if0 e hc58
        refine lv_aload_n hx hb d0_takeBack_87 rfl (lv_at hl 2 rfl) ?_
        refine lv_iload_n hx hb d0_takeBack_88 rfl (lv_at hl 0 rfl) ?_
        obtain ⟨o89, eo89, e⟩ := ce_bd e
        refine ce_callV (As := [.int (h_15 37 ((h_15 35 0)).toNatClampNeg)]) (rest := []) C (ce_sok aK aV B0) hH (c5_hasNode l D ad cA aK aV B0 C.2.2.2.2.2.2.1 F k1 (h_15 37 ((h_15 35 0)).toNatClampNeg) hk1 h_15 o89 eo89) (lk_Net hk1).1 (lk_Net hk1).2.choose_spec rfl rfl mc5_hasNode ml_0_42 mi5_hasNode ms5_hasNode mI_5 (n := 1) (by decide) rfl ⟨Nat.le_of_ble_eq_true rfl, Nat.le_of_ble_eq_true rfl⟩ ⟨Nat.le_of_ble_eq_true rfl, Nat.le_of_ble_eq_true rfl⟩ hl.1 rfl (Nat.le_of_ble_eq_true rfl) d0_takeBack_89 (fun H locs hH => ?_)
        refine W.eq (g2 := F0 m 92 ls [.int o89.1]) rfl ?_
        refine lv_if_eq (tgt := 115) hx hb d0_takeBack_92 (by decide) (fun hc92 => ?_) (fun hc92 => ?_)
        · have e := ce_if1 e hc92
          exact ce_vret C (ce_sok aK aV B0) hH (Option.some.inj e) d0_takeBack_115
        · have e := ce_if0 e hc92
          refine lv_aload_n hx hb d0_takeBack_95 rfl (lv_at hl 2 rfl) ?_
          refine gf_0_46 C hH hk1 d0_takeBack_96 ?_
          refine lv_iload_n hx hb d0_takeBack_99 rfl (lv_at hl 0 rfl) ?_
          refine lv_aload_n hx hb d0_takeBack_100 rfl (lv_at hl 2 rfl) ?_
          refine gf_0_46 C hH hk1 d0_takeBack_101 ?_
          refine lv_iload_n hx hb d0_takeBack_104 rfl (lv_at hl 0 rfl) ?_
          obtain ⟨hi105, e⟩ := ce_gd e
          refine ce_zald C hH (la_Net_2 hk1).1 (la_Net_2 hk1).2 (ce_in_vp hi105) d0_takeBack_105 ?_
          refine lv_if_ne (tgt := 113) hx hb d0_takeBack_106 (by decide) (fun hc106 => ?_) (fun hc106 => ?_)
          · have e := ce_if0 e hc106
            refine lv_iconst (v := (0 : Int32)) hx hb d0_takeBack_113 (by decide) ?_
            obtain ⟨hi114, e⟩ := ce_gd e
            refine ce_zast C hH (la_Net_2 hk1).1 (la_Net_2 hk1).2 (ce_in_vp hi114) d0_takeBack_114 (fun H locs hH => ?_)
            obtain ⟨h_114, eh_114, e⟩ := ce_nmE e
            rw [← eh_114] at hH
            exact ce_vret C (ce_sok aK aV B0) hH (Option.some.inj e) d0_takeBack_115
          · have e := ce_if1 e hc106
            refine lv_iconst (v := (1 : Int32)) hx hb d0_takeBack_109 (by decide) ?_
            refine lv_goto (tgt := 114) hx hb d0_takeBack_110 (by decide) ?_
            obtain ⟨hi114, e⟩ := ce_gd e
            refine ce_zast C hH (la_Net_2 hk1).1 (la_Net_2 hk1).2 (ce_in_vp hi114) d0_takeBack_114 (fun H locs hH => ?_)
            obtain ⟨h_114, eh_114, e⟩ := ce_nmE e
            rw [← eh_114] at hH
            exact ce_vret C (ce_sok aK aV B0) hH (Option.some.inj e) d0_takeBack_115
      · have e := ce_if1 e hc58
        refine lv_aload_n hx hb d0_takeBack_61 rfl (lv_at hl 2 rfl) ?_
        refine lv_iload_n hx hb d0_takeBack_62 rfl (lv_at hl 0 rfl) ?_
        refine lv_aload_n hx hb d0_takeBack_63 rfl (lv_at hl 1 rfl) ?_
        refine gf_0_22 C hH d0_takeBack_64 ?_
        refine lv_aload_n hx hb d0_takeBack_67 rfl (lv_at hl 1 rfl) ?_
        refine gf_0_9 C hH d0_takeBack_68 ?_
        obtain ⟨hi71, e⟩ := ce_gd e
        refine ce_iald C hH lc_38.1 lc_38.2 (ce_in_vp hi71) d0_takeBack_71 ?_
        refine lv_aload_n hx hb d0_takeBack_72 rfl (lv_at hl 1 rfl) ?_
        refine gf_0_25 C hH d0_takeBack_73 ?_
        refine lv_aload_n hx hb d0_takeBack_76 rfl (lv_at hl 1 rfl) ?_
        refine gf_0_9 C hH d0_takeBack_77 ?_
        obtain ⟨hi80, e⟩ := ce_gd e
        refine ce_iald C hH lc_39.1 lc_39.2 (ce_in_vp hi80) d0_takeBack_80 ?_
        obtain ⟨o81, eo81, e⟩ := ce_bd e
        refine ce_callV (As := [.int (h_15 37 ((h_15 35 0)).toNatClampNeg), .int (h_15 38 ((h_15 35 0)).toNatClampNeg), .int (h_15 39 ((h_15 35 0)).toNatClampNeg)]) (rest := []) C (ce_sok aK aV B0) hH (c5_link l D ad cA aK aV B0 C.2.2.2.2.2.2.1 F k1 (h_15 37 ((h_15 35 0)).toNatClampNeg) (h_15 38 ((h_15 35 0)).toNatClampNeg) (h_15 39 ((h_15 35 0)).toNatClampNeg) hk1 h_15 o81 eo81) (lk_Net hk1).1 (lk_Net hk1).2.choose_spec rfl rfl mc5_link ml_0_38 mi5_link ms5_link mI_5 (n := 3) (by decide) rfl ⟨Nat.le_of_ble_eq_true rfl, Nat.le_of_ble_eq_true rfl⟩ ⟨Nat.le_of_ble_eq_true rfl, Nat.le_of_ble_eq_true rfl⟩ hl.1 rfl (Nat.le_of_ble_eq_true rfl) d0_takeBack_81 (fun H locs hH => ?_)
        refine W.eq (g2 := F0 m 84 ls []) rfl ?_
        refine lv_goto (tgt := 115) hx hb d0_takeBack_84 (by decide) ?_
        exact ce_vret C (ce_sok aK aV B0) hH (Option.some.inj e) d0_takeBack_115
    · have e := ce_if1 e hc37
      refine lv_aload_n hx hb d0_takeBack_40 rfl (lv_at hl 2 rfl) ?_
      refine lv_iload_n hx hb d0_takeBack_41 rfl (lv_at hl 0 rfl) ?_
      obtain ⟨o42, eo42, e⟩ := ce_bd e
      refine ce_callV (As := [.int (h_15 37 ((h_15 35 0)).toNatClampNeg)]) (rest := []) C (ce_sok aK aV B0) hH (c5_unlink l D ad cA aK aV B0 C.2.2.2.2.2.2.1 F k1 (h_15 37 ((h_15 35 0)).toNatClampNeg) hk1 h_15 o42 eo42) (lk_Net hk1).1 (lk_Net hk1).2.choose_spec rfl rfl mc5_unlink ml_0_32 mi5_unlink ms5_unlink mI_5 (n := 1) (by decide) rfl ⟨Nat.le_of_ble_eq_true rfl, Nat.le_of_ble_eq_true rfl⟩ ⟨Nat.le_of_ble_eq_true rfl, Nat.le_of_ble_eq_true rfl⟩ hl.1 rfl (Nat.le_of_ble_eq_true rfl) d0_takeBack_42 (fun H locs hH => ?_)
      refine W.eq (g2 := F0 m 45 ls []) rfl ?_
      refine lv_goto (tgt := 115) hx hb d0_takeBack_45 (by decide) ?_
      exact ce_vret C (ce_sok aK aV B0) hH (Option.some.inj e) d0_takeBack_115
  · have e := ce_if1 e hc4
    exact ce_vret C (ce_sok aK aV B0) hH (Option.some.inj e) d0_takeBack_7
end C1
