-- C14: functions and contracts, written by wip/whole/gen (mgen.py, walk.py, walk2.py) out of the bytecode
section C14
variable {p : Program} {l : Launch} {e0 : Env} {R : Room} {s : State} {m : MethodId} {args : Array Value} {below : List Frame} {meth : Method} {c : Code} {H : Heap} {locs : List Loc} {cells slots : Nat} {Q : State → Prop}
variable {cc : ByteArray} {pc nL : Nat} {ret : Option FieldType} {ls : Array Slot} {rest : List Value} {D : va_G} {ad : Nat → Nat} {cA : Nat → ClassId} {B0 : Nat} {X : va_W} {h : Hp} {aK aV : Nat → Nat}
abbrev b12_loopsOf : ByteArray := prog_14_method_35_code
def y12_loopsOf : MethodName := ⟨cn_12, "loopsOf", "()I"⟩
theorem d12_loopsOf_0 : decode b12_loopsOf 0 = .ok (.iconst 0, 1) := by decide +kernel
theorem d12_loopsOf_1 : decode b12_loopsOf 1 = .ok (.istore_n 1, 1) := by decide +kernel
theorem d12_loopsOf_2 : decode b12_loopsOf 2 = .ok (.iconst 0, 1) := by decide +kernel
theorem d12_loopsOf_3 : decode b12_loopsOf 3 = .ok (.istore_n 2, 1) := by decide +kernel
theorem d12_loopsOf_4 : decode b12_loopsOf 4 = .ok (.iload_n 2, 1) := by decide +kernel
theorem d12_loopsOf_5 : decode b12_loopsOf 5 = .ok (.aload_n 0, 1) := by decide +kernel
theorem d12_loopsOf_6 : decode b12_loopsOf 6 = .ok (.getfield 7, 3) := by decide +kernel
theorem d12_loopsOf_9 : decode b12_loopsOf 9 = .ok (.iconst 2, 1) := by decide +kernel
theorem d12_loopsOf_10 : decode b12_loopsOf 10 = .ok (.iaload, 1) := by decide +kernel
theorem d12_loopsOf_11 : decode b12_loopsOf 11 = .ok (.if_icmp .ge 35, 3) := by decide +kernel
theorem d12_loopsOf_14 : decode b12_loopsOf 14 = .ok (.iload_n 1, 1) := by decide +kernel
theorem d12_loopsOf_15 : decode b12_loopsOf 15 = .ok (.aload_n 0, 1) := by decide +kernel
theorem d12_loopsOf_16 : decode b12_loopsOf 16 = .ok (.iload_n 2, 1) := by decide +kernel
theorem d12_loopsOf_17 : decode b12_loopsOf 17 = .ok (.invokevirtual 233, 3) := by decide +kernel
theorem d12_loopsOf_20 : decode b12_loopsOf 20 = .ok (.ifCond .eq 17, 3) := by decide +kernel
theorem d12_loopsOf_23 : decode b12_loopsOf 23 = .ok (.aload_n 0, 1) := by decide +kernel
theorem d12_loopsOf_24 : decode b12_loopsOf 24 = .ok (.getfield 32, 3) := by decide +kernel
theorem d12_loopsOf_27 : decode b12_loopsOf 27 = .ok (.iload_n 2, 1) := by decide +kernel
theorem d12_loopsOf_28 : decode b12_loopsOf 28 = .ok (.iaload, 1) := by decide +kernel
theorem d12_loopsOf_29 : decode b12_loopsOf 29 = .ok (.iload_n 2, 1) := by decide +kernel
theorem d12_loopsOf_30 : decode b12_loopsOf 30 = .ok (.if_icmp .ne 7, 3) := by decide +kernel
theorem d12_loopsOf_33 : decode b12_loopsOf 33 = .ok (.iconst 1, 1) := by decide +kernel
theorem d12_loopsOf_34 : decode b12_loopsOf 34 = .ok (.goto 4, 3) := by decide +kernel
theorem d12_loopsOf_37 : decode b12_loopsOf 37 = .ok (.iconst 0, 1) := by decide +kernel
theorem d12_loopsOf_38 : decode b12_loopsOf 38 = .ok (.iadd, 1) := by decide +kernel
theorem d12_loopsOf_39 : decode b12_loopsOf 39 = .ok (.istore_n 1, 1) := by decide +kernel
theorem d12_loopsOf_40 : decode b12_loopsOf 40 = .ok (.iinc 2 1, 3) := by decide +kernel
theorem d12_loopsOf_43 : decode b12_loopsOf 43 = .ok (.goto (-39), 3) := by decide +kernel
theorem d12_loopsOf_46 : decode b12_loopsOf 46 = .ok (.iload_n 1, 1) := by decide +kernel
theorem d12_loopsOf_47 : decode b12_loopsOf 47 = .ok (.ireturn, 1) := by decide +kernel
theorem mc12_isLoop : Cond.code y12_isLoop b12_isLoop 5 (some .boolean) ∈ ce_cm := ce_cm_of (List.mem_of_getElem? (i := 1379) (by decide +kernel)) (by decide +kernel)
theorem ml_12_233 : Cond.methodLink cn_12 233 y12_isLoop ∈ ce_cm := ce_cm_of (List.mem_of_getElem? (i := 1376) (by decide +kernel)) (by decide +kernel)
theorem mi12_isLoop : Cond.instanceMethod y12_isLoop ∈ ce_cm := ce_cm_of (List.mem_of_getElem? (i := 1378) (by decide +kernel)) (by decide +kernel)
theorem ms12_isLoop : Cond.selects cn_12 y12_isLoop y12_isLoop ∈ ce_cm := ce_cm_of (List.mem_of_getElem? (i := 52) (by decide +kernel)) (by decide +kernel)
def f12_loopsOf_b4 (F : Nat) (x1 : Int32) (x2 : Int32) (h : Hp) : Option ((Int32 × Int32 × Hp) ⊕ (Int32 × Hp)) :=
  if (h 69 ((2 : Int32)).toNatClampNeg) ≤ x2 then
    some (.inr (x1, h))
  else
    Option.bind (f12_isLoop F x2 h) (fun o17 =>
      if o17.1 = 0 then
        some (.inl (x1 + (0 : Int32), x2 + (1 : Int32), o17.2))
      else
        if ce_in x2 10 = true then
          if (o17.2 75 (x2).toNatClampNeg) = x2 then
            some (.inl (x1 + (1 : Int32), x2 + (1 : Int32), o17.2))
          else
            some (.inl (x1 + (0 : Int32), x2 + (1 : Int32), o17.2))
        else none)
set_option maxRecDepth 20000 in
theorem l12_loopsOf_4 (C : ce_Cx p s m args c meth b12_loopsOf 3 (some .int) cn_12 D ad cA B0 (ce_St aK aV B0)) (F : Nat)   (r : Int32 × Hp) (g : (Int32 × Hp) → Option (Int32 × Hp)) (hx : ∀ (x1 : Int32) (h : Hp) (H : Heap) (locs : List Loc) (ls : Array Slot), ce_H D ad cA B0 [] s h H locs → lv_has ls 3 [(1, .int x1)] → g (x1, h) = some r → W p l e0 { frames := 4, cells := 0, slots := 0, locals := 91 } s m args below meth c H locs 0 0 (MQ below (ce_Q D ad cA B0 (ce_St aK aV B0) (some (.int r.1)) r.2) args s 0 0 (fun q => B0 ≤ q)) (F0 m 46 ls [])) : ∀ (n : Nat) (x1 : Int32) (x2 : Int32) (h : Hp) (H : Heap) (locs : List Loc) (ls : Array Slot), ce_H D ad cA B0 [] s h H locs → lv_has ls 3 [(0, .ref (ad 68)), (1, .int x1), (2, .int x2)] → Option.bind (ce_it (fun (st : Int32 × Int32 × Hp) => f12_loopsOf_b4 F  st.1 st.2.1 st.2.2) n (x1, x2, h)) g = some r → W p l e0 { frames := 4, cells := 0, slots := 0, locals := 91 } s m args below meth c H locs 0 0 (MQ below (ce_Q D ad cA B0 (ce_St aK aV B0) (some (.int r.1)) r.2) args s 0 0 (fun q => B0 ≤ q)) (F0 m 4 ls []) := by
  intro n
  induction n with
  | zero =>
    intro x1 x2 h H locs ls hH hl e
    exact absurd e (fun z => by cases z)
  | succ n ih =>
    intro x1 x2 h H locs ls hH hl e
    have hx9 := C.1
    have hb := C.2.1
    have e : Option.bind (f12_loopsOf_b4 F  x1 x2 h) _ = some r := ce_it_bd e
    unfold f12_loopsOf_b4 at e
    refine lv_iload_n hx9 hb d12_loopsOf_4 rfl (lv_at hl 2 rfl) ?_
    refine lv_aload_n hx9 hb d12_loopsOf_5 rfl (lv_at hl 0 rfl) ?_
    refine gf_12_7 C hH d12_loopsOf_6 ?_
    refine lv_iconst (v := (2 : Int32)) hx9 hb d12_loopsOf_9 (by decide) ?_
    refine ce_iald C hH lc_69.1 lc_69.2 (ce_in_vp (by decide)) d12_loopsOf_10 ?_
    refine lv_icmp_ge (tgt := 46) hx9 hb d12_loopsOf_11 (by decide) (fun hc11 => ?_) (fun hc11 => ?_)
    · have e := ce_if1 e hc11
      exact hx x1 h _ _ _ hH (lv_sub hl [1] rfl) e
    · have e := ce_if0 e hc11
      refine lv_iload_n hx9 hb d12_loopsOf_14 rfl (lv_at hl 1 rfl) ?_
      refine lv_aload_n hx9 hb d12_loopsOf_15 rfl (lv_at hl 0 rfl) ?_
      refine lv_iload_n hx9 hb d12_loopsOf_16 rfl (lv_at hl 2 rfl) ?_
      obtain ⟨o17, eo17, e⟩ := ce_bd e
      refine ce_callV (As := [.int x2]) (rest := [.int x1]) C (ce_sok aK aV B0) hH (c12_isLoop l D ad cA aK aV B0 C.2.2.2.2.2.2.1 F x2  h o17 eo17) lo_68.1 lo_68.2.choose_spec rfl rfl mc12_isLoop ml_12_233 mi12_isLoop ms12_isLoop mI_12 (n := 1) (by decide) rfl ⟨Nat.le_of_ble_eq_true rfl, Nat.le_of_ble_eq_true rfl⟩ ⟨Nat.le_of_ble_eq_true rfl, Nat.le_of_ble_eq_true rfl⟩ hl.1 rfl (Nat.le_of_ble_eq_true rfl) d12_loopsOf_17 (fun H locs hH => ?_)
      refine W.eq (g2 := F0 m 20 ls [.int o17.1, .int x1]) rfl ?_
      refine lv_if_eq (tgt := 37) hx9 hb d12_loopsOf_20 (by decide) (fun hc20 => ?_) (fun hc20 => ?_)
      · have e := ce_if1 e hc20
        refine lv_iconst (v := (0 : Int32)) hx9 hb d12_loopsOf_37 (by decide) ?_
        refine lv_iadd hx9 hb d12_loopsOf_38 ?_
        refine lv_istore_n (lv' := [(1, .int (x1 + (0 : Int32))), (0, .ref (ad 68)), (2, .int x2)]) hx9 hb d12_loopsOf_39 rfl hl (by decide) rfl (fun ls hl => ?_)
        refine lv_iinc (v := x2 + (1 : Int32)) (lv' := [(2, .int (x2 + (1 : Int32))), (1, .int (x1 + (0 : Int32))), (0, .ref (ad 68))]) hx9 hb d12_loopsOf_40 hl (k := 2) rfl rfl (by decide) rfl (fun ls hl => ?_)
        refine lv_goto (tgt := 4) hx9 hb d12_loopsOf_43 (by decide) ?_
        exact ih (x1 + (0 : Int32)) (x2 + (1 : Int32)) o17.2 _ _ _ hH (lv_sub hl [2, 1, 0] rfl) e
      · have e := ce_if0 e hc20
        refine lv_aload_n hx9 hb d12_loopsOf_23 rfl (lv_at hl 0 rfl) ?_
        refine gf_12_32 C hH d12_loopsOf_24 ?_
        refine lv_iload_n hx9 hb d12_loopsOf_27 rfl (lv_at hl 2 rfl) ?_
        obtain ⟨hi28, e⟩ := ce_gd e
        refine ce_iald C hH lc_75.1 lc_75.2 (ce_in_vp hi28) d12_loopsOf_28 ?_
        refine lv_iload_n hx9 hb d12_loopsOf_29 rfl (lv_at hl 2 rfl) ?_
        refine lv_icmp_ne (tgt := 37) hx9 hb d12_loopsOf_30 (by decide) (fun hc30 => ?_) (fun hc30 => ?_)
        · have e := ce_if0 e hc30
          refine lv_iconst (v := (0 : Int32)) hx9 hb d12_loopsOf_37 (by decide) ?_
          refine lv_iadd hx9 hb d12_loopsOf_38 ?_
          refine lv_istore_n (lv' := [(1, .int (x1 + (0 : Int32))), (0, .ref (ad 68)), (2, .int x2)]) hx9 hb d12_loopsOf_39 rfl hl (by decide) rfl (fun ls hl => ?_)
          refine lv_iinc (v := x2 + (1 : Int32)) (lv' := [(2, .int (x2 + (1 : Int32))), (1, .int (x1 + (0 : Int32))), (0, .ref (ad 68))]) hx9 hb d12_loopsOf_40 hl (k := 2) rfl rfl (by decide) rfl (fun ls hl => ?_)
          refine lv_goto (tgt := 4) hx9 hb d12_loopsOf_43 (by decide) ?_
          exact ih (x1 + (0 : Int32)) (x2 + (1 : Int32)) o17.2 _ _ _ hH (lv_sub hl [2, 1, 0] rfl) e
        · have e := ce_if1 e hc30
          refine lv_iconst (v := (1 : Int32)) hx9 hb d12_loopsOf_33 (by decide) ?_
          refine lv_goto (tgt := 38) hx9 hb d12_loopsOf_34 (by decide) ?_
          refine lv_iadd hx9 hb d12_loopsOf_38 ?_
          refine lv_istore_n (lv' := [(1, .int (x1 + (1 : Int32))), (0, .ref (ad 68)), (2, .int x2)]) hx9 hb d12_loopsOf_39 rfl hl (by decide) rfl (fun ls hl => ?_)
          refine lv_iinc (v := x2 + (1 : Int32)) (lv' := [(2, .int (x2 + (1 : Int32))), (1, .int (x1 + (1 : Int32))), (0, .ref (ad 68))]) hx9 hb d12_loopsOf_40 hl (k := 2) rfl rfl (by decide) rfl (fun ls hl => ?_)
          refine lv_goto (tgt := 4) hx9 hb d12_loopsOf_43 (by decide) ?_
          exact ih (x1 + (1 : Int32)) (x2 + (1 : Int32)) o17.2 _ _ _ hH (lv_sub hl [2, 1, 0] rfl) e
def f12_loopsOf (F : Nat)  (h : Hp) : Option (Int32 × Hp) :=
  Option.bind (ce_it (fun (st : Int32 × Int32 × Hp) => f12_loopsOf_b4 F  st.1 st.2.1 st.2.2) F ((0 : Int32), (0 : Int32), h)) (fun o4 =>
    some (o4.1, o4.2))
set_option maxRecDepth 20000 in
theorem c12_loopsOf (l : Launch) (D : va_G) (ad : Nat → Nat) (cA : Nat → ClassId) (aK aV : Nat → Nat) (B0 : Nat) (hA : ce_Ad ad B0) (F : Nat)   (h : Hp) (r : Int32 × Hp) (e : f12_loopsOf F  h = some r) : ce_Ct l D ad cA B0 (ce_St aK aV B0) y12_loopsOf b12_loopsOf 3 (some .int) 4 91 0 0 [.ref (ad 68)] h (some (.int r.1)) r.2 := by
  refine ce_enter hA (by decide) rfl (Nat.le_of_ble_eq_true rfl) (fun p e0 s m below meth c ls C hH hl => ?_)
  have hl : lv_has ls 3 [(0, .ref (ad 68))] := hl
  have hx := C.1
  have hb := C.2.1
  have e : Option.bind _ some = some r := (congrArg (fun z => Option.bind z some) e).trans rfl
  unfold f12_loopsOf at e
  refine lv_iconst (v := (0 : Int32)) hx hb d12_loopsOf_0 (by decide) ?_
  refine lv_istore_n (lv' := [(1, .int (0 : Int32)), (0, .ref (ad 68))]) hx hb d12_loopsOf_1 rfl hl (by decide) rfl (fun ls hl => ?_)
  refine lv_iconst (v := (0 : Int32)) hx hb d12_loopsOf_2 (by decide) ?_
  refine lv_istore_n (lv' := [(2, .int (0 : Int32)), (1, .int (0 : Int32)), (0, .ref (ad 68))]) hx hb d12_loopsOf_3 rfl hl (by decide) rfl (fun ls hl => ?_)
  refine l12_loopsOf_4 C F   r _ (fun y4_1 h_4 H locs ls hH hl e => ?_) F (0 : Int32) (0 : Int32) h _ _ _ hH (lv_sub hl [2, 1, 0] rfl) (ce_as e)
  try dsimp only at e
  refine lv_iload_n hx hb d12_loopsOf_46 rfl (lv_at hl 0 rfl) ?_
  exact ce_iretE C (ce_sok aK aV B0) hH e d12_loopsOf_47
abbrev b12_count : ByteArray := prog_14_method_36_code
def y12_count : MethodName := ⟨cn_12, "count", "(I)I"⟩
theorem d12_count_0 : decode b12_count 0 = .ok (.iload_n 1, 1) := by decide +kernel
theorem d12_count_1 : decode b12_count 1 = .ok (.tableswitch 106 0 8 #[51, 58, 63, 70, 77, 84, 91, 96, 101], 51) := by decide +kernel
theorem d12_count_52 : decode b12_count 52 = .ok (.aload_n 0, 1) := by decide +kernel
theorem d12_count_53 : decode b12_count 53 = .ok (.getfield 7, 3) := by decide +kernel
theorem d12_count_56 : decode b12_count 56 = .ok (.iconst 2, 1) := by decide +kernel
theorem d12_count_57 : decode b12_count 57 = .ok (.iaload, 1) := by decide +kernel
theorem d12_count_58 : decode b12_count 58 = .ok (.ireturn, 1) := by decide +kernel
theorem d12_count_59 : decode b12_count 59 = .ok (.aload_n 0, 1) := by decide +kernel
theorem d12_count_60 : decode b12_count 60 = .ok (.invokevirtual 236, 3) := by decide +kernel
theorem d12_count_63 : decode b12_count 63 = .ok (.ireturn, 1) := by decide +kernel
theorem d12_count_64 : decode b12_count 64 = .ok (.aload_n 0, 1) := by decide +kernel
theorem d12_count_65 : decode b12_count 65 = .ok (.getfield 7, 3) := by decide +kernel
theorem d12_count_68 : decode b12_count 68 = .ok (.iconst 0, 1) := by decide +kernel
theorem d12_count_69 : decode b12_count 69 = .ok (.iaload, 1) := by decide +kernel
theorem d12_count_70 : decode b12_count 70 = .ok (.ireturn, 1) := by decide +kernel
theorem d12_count_71 : decode b12_count 71 = .ok (.aload_n 0, 1) := by decide +kernel
theorem d12_count_72 : decode b12_count 72 = .ok (.getfield 7, 3) := by decide +kernel
theorem d12_count_75 : decode b12_count 75 = .ok (.iconst 1, 1) := by decide +kernel
theorem d12_count_76 : decode b12_count 76 = .ok (.iaload, 1) := by decide +kernel
theorem d12_count_77 : decode b12_count 77 = .ok (.ireturn, 1) := by decide +kernel
theorem d12_count_78 : decode b12_count 78 = .ok (.aload_n 0, 1) := by decide +kernel
theorem d12_count_79 : decode b12_count 79 = .ok (.getfield 7, 3) := by decide +kernel
theorem d12_count_82 : decode b12_count 82 = .ok (.iconst 4, 1) := by decide +kernel
theorem d12_count_83 : decode b12_count 83 = .ok (.iaload, 1) := by decide +kernel
theorem d12_count_84 : decode b12_count 84 = .ok (.ireturn, 1) := by decide +kernel
theorem d12_count_85 : decode b12_count 85 = .ok (.aload_n 0, 1) := by decide +kernel
theorem d12_count_86 : decode b12_count 86 = .ok (.getfield 7, 3) := by decide +kernel
theorem d12_count_89 : decode b12_count 89 = .ok (.iconst 3, 1) := by decide +kernel
theorem d12_count_90 : decode b12_count 90 = .ok (.iaload, 1) := by decide +kernel
theorem d12_count_91 : decode b12_count 91 = .ok (.ireturn, 1) := by decide +kernel
theorem d12_count_92 : decode b12_count 92 = .ok (.aload_n 0, 1) := by decide +kernel
theorem d12_count_93 : decode b12_count 93 = .ok (.getfield 95, 3) := by decide +kernel
theorem d12_count_96 : decode b12_count 96 = .ok (.ireturn, 1) := by decide +kernel
theorem d12_count_97 : decode b12_count 97 = .ok (.aload_n 0, 1) := by decide +kernel
theorem d12_count_98 : decode b12_count 98 = .ok (.invokevirtual 239, 3) := by decide +kernel
theorem d12_count_101 : decode b12_count 101 = .ok (.ireturn, 1) := by decide +kernel
theorem d12_count_102 : decode b12_count 102 = .ok (.aload_n 0, 1) := by decide +kernel
theorem d12_count_103 : decode b12_count 103 = .ok (.invokevirtual 242, 3) := by decide +kernel
theorem d12_count_106 : decode b12_count 106 = .ok (.ireturn, 1) := by decide +kernel
theorem d12_count_107 : decode b12_count 107 = .ok (.iconst (-1), 1) := by decide +kernel
theorem d12_count_108 : decode b12_count 108 = .ok (.ireturn, 1) := by decide +kernel
theorem mc12_loopsOf : Cond.code y12_loopsOf b12_loopsOf 3 (some .int) ∈ ce_cm := ce_cm_of (List.mem_of_getElem? (i := 1375) (by decide +kernel)) (by decide +kernel)
theorem ml_12_242 : Cond.methodLink cn_12 242 y12_loopsOf ∈ ce_cm := ce_cm_of (List.mem_of_getElem? (i := 1372) (by decide +kernel)) (by decide +kernel)
theorem mi12_loopsOf : Cond.instanceMethod y12_loopsOf ∈ ce_cm := ce_cm_of (List.mem_of_getElem? (i := 1374) (by decide +kernel)) (by decide +kernel)
theorem ms12_loopsOf : Cond.selects cn_12 y12_loopsOf y12_loopsOf ∈ ce_cm := ce_cm_of (List.mem_of_getElem? (i := 51) (by decide +kernel)) (by decide +kernel)
theorem mc12_busesOf : Cond.code y12_busesOf b12_busesOf 3 (some .int) ∈ ce_cm := ce_cm_of (List.mem_of_getElem? (i := 1367) (by decide +kernel)) (by decide +kernel)
theorem ml_12_239 : Cond.methodLink cn_12 239 y12_busesOf ∈ ce_cm := ce_cm_of (List.mem_of_getElem? (i := 1364) (by decide +kernel)) (by decide +kernel)
theorem mi12_busesOf : Cond.instanceMethod y12_busesOf ∈ ce_cm := ce_cm_of (List.mem_of_getElem? (i := 1366) (by decide +kernel)) (by decide +kernel)
theorem ms12_busesOf : Cond.selects cn_12 y12_busesOf y12_busesOf ∈ ce_cm := ce_cm_of (List.mem_of_getElem? (i := 49) (by decide +kernel)) (by decide +kernel)
theorem mc12_cablesOf : Cond.code y12_cablesOf b12_cablesOf 3 (some .int) ∈ ce_cm := ce_cm_of (List.mem_of_getElem? (i := 1359) (by decide +kernel)) (by decide +kernel)
theorem ml_12_236 : Cond.methodLink cn_12 236 y12_cablesOf ∈ ce_cm := ce_cm_of (List.mem_of_getElem? (i := 1356) (by decide +kernel)) (by decide +kernel)
theorem mi12_cablesOf : Cond.instanceMethod y12_cablesOf ∈ ce_cm := ce_cm_of (List.mem_of_getElem? (i := 1358) (by decide +kernel)) (by decide +kernel)
theorem ms12_cablesOf : Cond.selects cn_12 y12_cablesOf y12_cablesOf ∈ ce_cm := ce_cm_of (List.mem_of_getElem? (i := 47) (by decide +kernel)) (by decide +kernel)
def f12_count (F : Nat) (x1 : Int32) (h : Hp) : Option (Int32 × Hp) :=
  if x1 = (0 : Int32) then
    some (h 69 ((2 : Int32)).toNatClampNeg, h)
  else
    if x1 = (1 : Int32) then
      Option.bind (f12_cablesOf F  h) (fun o60 =>
        some (o60.1, o60.2))
    else
      if x1 = (2 : Int32) then
        some (h 69 ((0 : Int32)).toNatClampNeg, h)
      else
        if x1 = (3 : Int32) then
          some (h 69 ((1 : Int32)).toNatClampNeg, h)
        else
          if x1 = (4 : Int32) then
            some (h 69 ((4 : Int32)).toNatClampNeg, h)
          else
            if x1 = (5 : Int32) then
              some (h 69 ((3 : Int32)).toNatClampNeg, h)
            else
              if x1 = (6 : Int32) then
                some (h 68 4, h)
              else
                if x1 = (7 : Int32) then
                  Option.bind (f12_busesOf F  h) (fun o98 =>
                    some (o98.1, o98.2))
                else
                  if x1 = (8 : Int32) then
                    Option.bind (f12_loopsOf F  h) (fun o103 =>
                      some (o103.1, o103.2))
                  else
                    some ((-1 : Int32), h)
set_option maxRecDepth 20000 in
theorem c12_count (l : Launch) (D : va_G) (ad : Nat → Nat) (cA : Nat → ClassId) (aK aV : Nat → Nat) (B0 : Nat) (hA : ce_Ad ad B0) (F : Nat) (x1 : Int32)  (h : Hp) (r : Int32 × Hp) (e : f12_count F x1 h = some r) : ce_Ct l D ad cA B0 (ce_St aK aV B0) y12_count b12_count 2 (some .int) 5 113 0 0 [.ref (ad 68), .int x1] h (some (.int r.1)) r.2 := by
  refine ce_enter hA (by decide) rfl (Nat.le_of_ble_eq_true rfl) (fun p e0 s m below meth c ls C hH hl => ?_)
  have hl : lv_has ls 2 [(0, .ref (ad 68)), (1, .int x1)] := hl
  have hx := C.1
  have hb := C.2.1
  have e : Option.bind _ some = some r := (congrArg (fun z => Option.bind z some) e).trans rfl
  unfold f12_count at e
  refine lv_iload_n hx hb d12_count_0 rfl (lv_at hl 1 rfl) ?_
  by_cases hc1_0 : x1 = (0 : Int32)
  · have e := ce_if1 e hc1_0
    refine lv_tableIn (off := 51) (tgt := 52) hx hb d12_count_1 (by rw [hc1_0]; decide) (by rw [hc1_0]; decide) (by rw [hc1_0]; rfl) (by decide) ?_
    refine lv_aload_n hx hb d12_count_52 rfl (lv_at hl 0 rfl) ?_
    refine gf_12_7 C hH d12_count_53 ?_
    refine lv_iconst (v := (2 : Int32)) hx hb d12_count_56 (by decide) ?_
    refine ce_iald C hH lc_69.1 lc_69.2 (ce_in_vp (by decide)) d12_count_57 ?_
    exact ce_iretE C (ce_sok aK aV B0) hH e d12_count_58
  · have e := ce_if0 e hc1_0
    by_cases hc1_1 : x1 = (1 : Int32)
    · have e := ce_if1 e hc1_1
      refine lv_tableIn (off := 58) (tgt := 59) hx hb d12_count_1 (by rw [hc1_1]; decide) (by rw [hc1_1]; decide) (by rw [hc1_1]; rfl) (by decide) ?_
      refine lv_aload_n hx hb d12_count_59 rfl (lv_at hl 0 rfl) ?_
      obtain ⟨o60, eo60, e⟩ := ce_bd e
      refine ce_callV (As := []) (rest := []) C (ce_sok aK aV B0) hH (c12_cablesOf l D ad cA aK aV B0 C.2.2.2.2.2.2.1 F   h o60 eo60) lo_68.1 lo_68.2.choose_spec rfl rfl mc12_cablesOf ml_12_236 mi12_cablesOf ms12_cablesOf mI_12 (n := 0) (by decide) rfl ⟨Nat.le_of_ble_eq_true rfl, Nat.le_of_ble_eq_true rfl⟩ ⟨Nat.le_of_ble_eq_true rfl, Nat.le_of_ble_eq_true rfl⟩ hl.1 rfl (Nat.le_of_ble_eq_true rfl) d12_count_60 (fun H locs hH => ?_)
      refine W.eq (g2 := F0 m 63 ls [.int o60.1]) rfl ?_
      exact ce_iretE C (ce_sok aK aV B0) hH e d12_count_63
    · have e := ce_if0 e hc1_1
      by_cases hc1_2 : x1 = (2 : Int32)
      · have e := ce_if1 e hc1_2
        refine lv_tableIn (off := 63) (tgt := 64) hx hb d12_count_1 (by rw [hc1_2]; decide) (by rw [hc1_2]; decide) (by rw [hc1_2]; rfl) (by decide) ?_
        refine lv_aload_n hx hb d12_count_64 rfl (lv_at hl 0 rfl) ?_
        refine gf_12_7 C hH d12_count_65 ?_
        refine lv_iconst (v := (0 : Int32)) hx hb d12_count_68 (by decide) ?_
        refine ce_iald C hH lc_69.1 lc_69.2 (ce_in_vp (by decide)) d12_count_69 ?_
        exact ce_iretE C (ce_sok aK aV B0) hH e d12_count_70
      · have e := ce_if0 e hc1_2
        by_cases hc1_3 : x1 = (3 : Int32)
        · have e := ce_if1 e hc1_3
          refine lv_tableIn (off := 70) (tgt := 71) hx hb d12_count_1 (by rw [hc1_3]; decide) (by rw [hc1_3]; decide) (by rw [hc1_3]; rfl) (by decide) ?_
          refine lv_aload_n hx hb d12_count_71 rfl (lv_at hl 0 rfl) ?_
          refine gf_12_7 C hH d12_count_72 ?_
          refine lv_iconst (v := (1 : Int32)) hx hb d12_count_75 (by decide) ?_
          refine ce_iald C hH lc_69.1 lc_69.2 (ce_in_vp (by decide)) d12_count_76 ?_
          exact ce_iretE C (ce_sok aK aV B0) hH e d12_count_77
        · have e := ce_if0 e hc1_3
          by_cases hc1_4 : x1 = (4 : Int32)
          · have e := ce_if1 e hc1_4
            refine lv_tableIn (off := 77) (tgt := 78) hx hb d12_count_1 (by rw [hc1_4]; decide) (by rw [hc1_4]; decide) (by rw [hc1_4]; rfl) (by decide) ?_
            refine lv_aload_n hx hb d12_count_78 rfl (lv_at hl 0 rfl) ?_
            refine gf_12_7 C hH d12_count_79 ?_
            refine lv_iconst (v := (4 : Int32)) hx hb d12_count_82 (by decide) ?_
            refine ce_iald C hH lc_69.1 lc_69.2 (ce_in_vp (by decide)) d12_count_83 ?_
            exact ce_iretE C (ce_sok aK aV B0) hH e d12_count_84
          · have e := ce_if0 e hc1_4
            by_cases hc1_5 : x1 = (5 : Int32)
            · have e := ce_if1 e hc1_5
              refine lv_tableIn (off := 84) (tgt := 85) hx hb d12_count_1 (by rw [hc1_5]; decide) (by rw [hc1_5]; decide) (by rw [hc1_5]; rfl) (by decide) ?_
              refine lv_aload_n hx hb d12_count_85 rfl (lv_at hl 0 rfl) ?_
              refine gf_12_7 C hH d12_count_86 ?_
              refine lv_iconst (v := (3 : Int32)) hx hb d12_count_89 (by decide) ?_
              refine ce_iald C hH lc_69.1 lc_69.2 (ce_in_vp (by decide)) d12_count_90 ?_
              exact ce_iretE C (ce_sok aK aV B0) hH e d12_count_91
            · have e := ce_if0 e hc1_5
              by_cases hc1_6 : x1 = (6 : Int32)
              · have e := ce_if1 e hc1_6
                refine lv_tableIn (off := 91) (tgt := 92) hx hb d12_count_1 (by rw [hc1_6]; decide) (by rw [hc1_6]; decide) (by rw [hc1_6]; rfl) (by decide) ?_
                refine lv_aload_n hx hb d12_count_92 rfl (lv_at hl 0 rfl) ?_
                refine gf_12_95 C hH d12_count_93 ?_
                exact ce_iretE C (ce_sok aK aV B0) hH e d12_count_96
              · have e := ce_if0 e hc1_6
                by_cases hc1_7 : x1 = (7 : Int32)
                · have e := ce_if1 e hc1_7
                  refine lv_tableIn (off := 96) (tgt := 97) hx hb d12_count_1 (by rw [hc1_7]; decide) (by rw [hc1_7]; decide) (by rw [hc1_7]; rfl) (by decide) ?_
                  refine lv_aload_n hx hb d12_count_97 rfl (lv_at hl 0 rfl) ?_
                  obtain ⟨o98, eo98, e⟩ := ce_bd e
                  refine ce_callV (As := []) (rest := []) C (ce_sok aK aV B0) hH (c12_busesOf l D ad cA aK aV B0 C.2.2.2.2.2.2.1 F   h o98 eo98) lo_68.1 lo_68.2.choose_spec rfl rfl mc12_busesOf ml_12_239 mi12_busesOf ms12_busesOf mI_12 (n := 0) (by decide) rfl ⟨Nat.le_of_ble_eq_true rfl, Nat.le_of_ble_eq_true rfl⟩ ⟨Nat.le_of_ble_eq_true rfl, Nat.le_of_ble_eq_true rfl⟩ hl.1 rfl (Nat.le_of_ble_eq_true rfl) d12_count_98 (fun H locs hH => ?_)
                  refine W.eq (g2 := F0 m 101 ls [.int o98.1]) rfl ?_
                  exact ce_iretE C (ce_sok aK aV B0) hH e d12_count_101
                · have e := ce_if0 e hc1_7
                  by_cases hc1_8 : x1 = (8 : Int32)
                  · have e := ce_if1 e hc1_8
                    refine lv_tableIn (off := 101) (tgt := 102) hx hb d12_count_1 (by rw [hc1_8]; decide) (by rw [hc1_8]; decide) (by rw [hc1_8]; rfl) (by decide) ?_
                    refine lv_aload_n hx hb d12_count_102 rfl (lv_at hl 0 rfl) ?_
                    obtain ⟨o103, eo103, e⟩ := ce_bd e
                    refine ce_callV (As := []) (rest := []) C (ce_sok aK aV B0) hH (c12_loopsOf l D ad cA aK aV B0 C.2.2.2.2.2.2.1 F   h o103 eo103) lo_68.1 lo_68.2.choose_spec rfl rfl mc12_loopsOf ml_12_242 mi12_loopsOf ms12_loopsOf mI_12 (n := 0) (by decide) rfl ⟨Nat.le_of_ble_eq_true rfl, Nat.le_of_ble_eq_true rfl⟩ ⟨Nat.le_of_ble_eq_true rfl, Nat.le_of_ble_eq_true rfl⟩ hl.1 rfl (Nat.le_of_ble_eq_true rfl) d12_count_103 (fun H locs hH => ?_)
                    refine W.eq (g2 := F0 m 106 ls [.int o103.1]) rfl ?_
                    exact ce_iretE C (ce_sok aK aV B0) hH e d12_count_106
                  · have e := ce_if0 e hc1_8
                    refine lv_tableOut (tgt := 107) hx hb d12_count_1 (ce_tblOut (n := 9) (fun i hi => ?_) (by decide)) (by decide) ?_
                    · match i, hi with
                      | 0, _ => exact hc1_0
                      | 1, _ => exact hc1_1
                      | 2, _ => exact hc1_2
                      | 3, _ => exact hc1_3
                      | 4, _ => exact hc1_4
                      | 5, _ => exact hc1_5
                      | 6, _ => exact hc1_6
                      | 7, _ => exact hc1_7
                      | 8, _ => exact hc1_8
                      | i + 9, hi => exact absurd hi (by omega)
                    · refine lv_iconst (v := (-1 : Int32)) hx hb d12_count_107 (by decide) ?_
                      exact ce_iretE C (ce_sok aK aV B0) hH e d12_count_108
abbrev b12_goes : ByteArray := prog_14_method_38_code
def y12_goes : MethodName := ⟨cn_12, "goes", "(II)V"⟩
theorem d12_goes_0 : decode b12_goes 0 = .ok (.iconst 0, 1) := by decide +kernel
theorem d12_goes_1 : decode b12_goes 1 = .ok (.istore_n 3, 1) := by decide +kernel
theorem d12_goes_2 : decode b12_goes 2 = .ok (.iconst (-1), 1) := by decide +kernel
theorem d12_goes_3 : decode b12_goes 3 = .ok (.istore 4, 2) := by decide +kernel
theorem d12_goes_5 : decode b12_goes 5 = .ok (.iconst 4, 1) := by decide +kernel
theorem d12_goes_6 : decode b12_goes 6 = .ok (.iload_n 1, 1) := by decide +kernel
theorem d12_goes_7 : decode b12_goes 7 = .ok (.imul, 1) := by decide +kernel
theorem d12_goes_8 : decode b12_goes 8 = .ok (.istore 5, 2) := by decide +kernel
theorem d12_goes_10 : decode b12_goes 10 = .ok (.iload 5, 2) := by decide +kernel
theorem d12_goes_12 : decode b12_goes 12 = .ok (.iconst 4, 1) := by decide +kernel
theorem d12_goes_13 : decode b12_goes 13 = .ok (.iload_n 1, 1) := by decide +kernel
theorem d12_goes_14 : decode b12_goes 14 = .ok (.imul, 1) := by decide +kernel
theorem d12_goes_15 : decode b12_goes 15 = .ok (.iconst 4, 1) := by decide +kernel
theorem d12_goes_16 : decode b12_goes 16 = .ok (.iadd, 1) := by decide +kernel
theorem d12_goes_17 : decode b12_goes 17 = .ok (.if_icmp .ge 36, 3) := by decide +kernel
theorem d12_goes_20 : decode b12_goes 20 = .ok (.aload_n 0, 1) := by decide +kernel
theorem d12_goes_21 : decode b12_goes 21 = .ok (.iload 5, 2) := by decide +kernel
theorem d12_goes_23 : decode b12_goes 23 = .ok (.invokevirtual 224, 3) := by decide +kernel
theorem d12_goes_26 : decode b12_goes 26 = .ok (.ifCond .lt 21, 3) := by decide +kernel
theorem d12_goes_29 : decode b12_goes 29 = .ok (.aload_n 0, 1) := by decide +kernel
theorem d12_goes_30 : decode b12_goes 30 = .ok (.getfield 35, 3) := by decide +kernel
theorem d12_goes_33 : decode b12_goes 33 = .ok (.iload 5, 2) := by decide +kernel
theorem d12_goes_35 : decode b12_goes 35 = .ok (.iaload, 1) := by decide +kernel
theorem d12_goes_36 : decode b12_goes 36 = .ok (.iload_n 2, 1) := by decide +kernel
theorem d12_goes_37 : decode b12_goes 37 = .ok (.if_icmp .le 10, 3) := by decide +kernel
theorem d12_goes_40 : decode b12_goes 40 = .ok (.iinc 3 1, 3) := by decide +kernel
theorem d12_goes_43 : decode b12_goes 43 = .ok (.iload 5, 2) := by decide +kernel
theorem d12_goes_45 : decode b12_goes 45 = .ok (.istore 4, 2) := by decide +kernel
theorem d12_goes_47 : decode b12_goes 47 = .ok (.iinc 5 1, 3) := by decide +kernel
theorem d12_goes_50 : decode b12_goes 50 = .ok (.goto (-40), 3) := by decide +kernel
theorem d12_goes_53 : decode b12_goes 53 = .ok (.iload_n 3, 1) := by decide +kernel
theorem d12_goes_54 : decode b12_goes 54 = .ok (.ifCond .ne 10, 3) := by decide +kernel
theorem d12_goes_57 : decode b12_goes 57 = .ok (.aload_n 0, 1) := by decide +kernel
theorem d12_goes_58 : decode b12_goes 58 = .ok (.getfield 47, 3) := by decide +kernel
theorem d12_goes_61 : decode b12_goes 61 = .ok (.iload_n 1, 1) := by decide +kernel
theorem d12_goes_62 : decode b12_goes 62 = .ok (.iload_n 2, 1) := by decide +kernel
theorem d12_goes_63 : decode b12_goes 63 = .ok (.iastore, 1) := by decide +kernel
theorem d12_goes_64 : decode b12_goes 64 = .ok (.iload_n 3, 1) := by decide +kernel
theorem d12_goes_65 : decode b12_goes 65 = .ok (.iconst 1, 1) := by decide +kernel
theorem d12_goes_66 : decode b12_goes 66 = .ok (.if_icmp .ne 96, 3) := by decide +kernel
theorem d12_goes_69 : decode b12_goes 69 = .ok (.aload_n 0, 1) := by decide +kernel
theorem d12_goes_70 : decode b12_goes 70 = .ok (.getfield 44, 3) := by decide +kernel
theorem d12_goes_73 : decode b12_goes 73 = .ok (.iload_n 1, 1) := by decide +kernel
theorem d12_goes_74 : decode b12_goes 74 = .ok (.aload_n 0, 1) := by decide +kernel
theorem d12_goes_75 : decode b12_goes 75 = .ok (.getfield 44, 3) := by decide +kernel
theorem d12_goes_78 : decode b12_goes 78 = .ok (.iload_n 1, 1) := by decide +kernel
theorem d12_goes_79 : decode b12_goes 79 = .ok (.iaload, 1) := by decide +kernel
theorem d12_goes_80 : decode b12_goes 80 = .ok (.iconst (-1), 1) := by decide +kernel
theorem d12_goes_81 : decode b12_goes 81 = .ok (.if_icmp .ne 7, 3) := by decide +kernel
theorem d12_goes_84 : decode b12_goes 84 = .ok (.iload_n 2, 1) := by decide +kernel
theorem d12_goes_85 : decode b12_goes 85 = .ok (.goto 9, 3) := by decide +kernel
theorem d12_goes_88 : decode b12_goes 88 = .ok (.aload_n 0, 1) := by decide +kernel
theorem d12_goes_89 : decode b12_goes 89 = .ok (.getfield 44, 3) := by decide +kernel
theorem d12_goes_92 : decode b12_goes 92 = .ok (.iload_n 1, 1) := by decide +kernel
theorem d12_goes_93 : decode b12_goes 93 = .ok (.iaload, 1) := by decide +kernel
theorem d12_goes_94 : decode b12_goes 94 = .ok (.iastore, 1) := by decide +kernel
theorem d12_goes_95 : decode b12_goes 95 = .ok (.aload_n 0, 1) := by decide +kernel
theorem d12_goes_96 : decode b12_goes 96 = .ok (.getfield 7, 3) := by decide +kernel
theorem d12_goes_99 : decode b12_goes 99 = .ok (.bipush 15, 2) := by decide +kernel
theorem d12_goes_101 : decode b12_goes 101 = .ok (.iload_n 1, 1) := by decide +kernel
theorem d12_goes_102 : decode b12_goes 102 = .ok (.iadd, 1) := by decide +kernel
theorem d12_goes_103 : decode b12_goes 103 = .ok (.iaload, 1) := by decide +kernel
theorem d12_goes_104 : decode b12_goes 104 = .ok (.ifCond .eq 20, 3) := by decide +kernel
theorem d12_goes_107 : decode b12_goes 107 = .ok (.iload_n 2, 1) := by decide +kernel
theorem d12_goes_108 : decode b12_goes 108 = .ok (.aload_n 0, 1) := by decide +kernel
theorem d12_goes_109 : decode b12_goes 109 = .ok (.getfield 44, 3) := by decide +kernel
theorem d12_goes_112 : decode b12_goes 112 = .ok (.iload_n 1, 1) := by decide +kernel
theorem d12_goes_113 : decode b12_goes 113 = .ok (.iaload, 1) := by decide +kernel
theorem d12_goes_114 : decode b12_goes 114 = .ok (.aload_n 0, 1) := by decide +kernel
theorem d12_goes_115 : decode b12_goes 115 = .ok (.getfield 7, 3) := by decide +kernel
theorem d12_goes_118 : decode b12_goes 118 = .ok (.iconst 0, 1) := by decide +kernel
theorem d12_goes_119 : decode b12_goes 119 = .ok (.iaload, 1) := by decide +kernel
theorem d12_goes_120 : decode b12_goes 120 = .ok (.iadd, 1) := by decide +kernel
theorem d12_goes_121 : decode b12_goes 121 = .ok (.if_icmp .ne 41, 3) := by decide +kernel
theorem d12_goes_124 : decode b12_goes 124 = .ok (.aload_n 0, 1) := by decide +kernel
theorem d12_goes_125 : decode b12_goes 125 = .ok (.getfield 38, 3) := by decide +kernel
theorem d12_goes_128 : decode b12_goes 128 = .ok (.iload_n 1, 1) := by decide +kernel
theorem d12_goes_129 : decode b12_goes 129 = .ok (.iload_n 2, 1) := by decide +kernel
theorem d12_goes_130 : decode b12_goes 130 = .ok (.iastore, 1) := by decide +kernel
theorem d12_goes_131 : decode b12_goes 131 = .ok (.aload_n 0, 1) := by decide +kernel
theorem d12_goes_132 : decode b12_goes 132 = .ok (.getfield 41, 3) := by decide +kernel
theorem d12_goes_135 : decode b12_goes 135 = .ok (.iload_n 1, 1) := by decide +kernel
theorem d12_goes_136 : decode b12_goes 136 = .ok (.iload 4, 2) := by decide +kernel
theorem d12_goes_138 : decode b12_goes 138 = .ok (.iastore, 1) := by decide +kernel
theorem d12_goes_139 : decode b12_goes 139 = .ok (.aload_n 0, 1) := by decide +kernel
theorem d12_goes_140 : decode b12_goes 140 = .ok (.getfield 35, 3) := by decide +kernel
theorem d12_goes_143 : decode b12_goes 143 = .ok (.aload_n 0, 1) := by decide +kernel
theorem d12_goes_144 : decode b12_goes 144 = .ok (.iload 4, 2) := by decide +kernel
theorem d12_goes_146 : decode b12_goes 146 = .ok (.invokevirtual 224, 3) := by decide +kernel
theorem d12_goes_149 : decode b12_goes 149 = .ok (.iload_n 2, 1) := by decide +kernel
theorem d12_goes_150 : decode b12_goes 150 = .ok (.aload_n 0, 1) := by decide +kernel
theorem d12_goes_151 : decode b12_goes 151 = .ok (.getfield 7, 3) := by decide +kernel
theorem d12_goes_154 : decode b12_goes 154 = .ok (.bipush 85, 2) := by decide +kernel
theorem d12_goes_156 : decode b12_goes 156 = .ok (.iload 4, 2) := by decide +kernel
theorem d12_goes_158 : decode b12_goes 158 = .ok (.iadd, 1) := by decide +kernel
theorem d12_goes_159 : decode b12_goes 159 = .ok (.iaload, 1) := by decide +kernel
theorem d12_goes_160 : decode b12_goes 160 = .ok (.iadd, 1) := by decide +kernel
theorem d12_goes_161 : decode b12_goes 161 = .ok (.iastore, 1) := by decide +kernel
theorem d12_goes_162 : decode b12_goes 162 = .ok (.return_, 1) := by decide +kernel
theorem fl_12_35 : Cond.fieldLink cn_12 35 (ft_12 16).1 (ft_12 16).2.1 (ft_12 16).2.2.1 ∈ ce_cm := ce_cm_of (List.mem_of_getElem? (i := 1137) (by decide +kernel)) (by decide +kernel)
theorem gf_12_35 (C : ce_Cx p s m args c meth cc nL ret cn_12 D ad cA B0 (ce_St aK aV B0)) (hH : ce_H D ad cA B0 X s h H locs) (hdg : decode cc pc = .ok (.getfield 35, 3)) (kk : W p l e0 R s m args below meth c H locs cells slots Q (F0 m (pc + 3) ls (.ref (ad 76) :: rest))) : W p l e0 R s m args below meth c H locs cells slots Q (F0 m pc ls (.ref (ad 68) :: rest)) := by
  exact ce_get C hH (k := 68) (ci := 12) (j := 16) (N := 43) (sj := some (some 76)) (by decide) rfl rfl fw_12 (by decide) fl_12_35 rfl hdg kk
theorem lc_76 : 76 < 96 ∧ ce_lay 76 = .inl (0, 40) := ⟨by decide, rfl⟩
theorem fl_12_44 : Cond.fieldLink cn_12 44 (ft_12 19).1 (ft_12 19).2.1 (ft_12 19).2.2.1 ∈ ce_cm := ce_cm_of (List.mem_of_getElem? (i := 1140) (by decide +kernel)) (by decide +kernel)
theorem gf_12_44 (C : ce_Cx p s m args c meth cc nL ret cn_12 D ad cA B0 (ce_St aK aV B0)) (hH : ce_H D ad cA B0 X s h H locs) (hdg : decode cc pc = .ok (.getfield 44, 3)) (kk : W p l e0 R s m args below meth c H locs cells slots Q (F0 m (pc + 3) ls (.ref (ad 79) :: rest))) : W p l e0 R s m args below meth c H locs cells slots Q (F0 m pc ls (.ref (ad 68) :: rest)) := by
  exact ce_get C hH (k := 68) (ci := 12) (j := 19) (N := 43) (sj := some (some 79)) (by decide) rfl rfl fw_12 (by decide) fl_12_44 rfl hdg kk
theorem lc_79 : 79 < 96 ∧ ce_lay 79 = .inl (0, 10) := ⟨by decide, rfl⟩
theorem fl_12_38 : Cond.fieldLink cn_12 38 (ft_12 17).1 (ft_12 17).2.1 (ft_12 17).2.2.1 ∈ ce_cm := ce_cm_of (List.mem_of_getElem? (i := 1138) (by decide +kernel)) (by decide +kernel)
theorem gf_12_38 (C : ce_Cx p s m args c meth cc nL ret cn_12 D ad cA B0 (ce_St aK aV B0)) (hH : ce_H D ad cA B0 X s h H locs) (hdg : decode cc pc = .ok (.getfield 38, 3)) (kk : W p l e0 R s m args below meth c H locs cells slots Q (F0 m (pc + 3) ls (.ref (ad 77) :: rest))) : W p l e0 R s m args below meth c H locs cells slots Q (F0 m pc ls (.ref (ad 68) :: rest)) := by
  exact ce_get C hH (k := 68) (ci := 12) (j := 17) (N := 43) (sj := some (some 77)) (by decide) rfl rfl fw_12 (by decide) fl_12_38 rfl hdg kk
theorem lc_77 : 77 < 96 ∧ ce_lay 77 = .inl (0, 10) := ⟨by decide, rfl⟩
theorem fl_12_41 : Cond.fieldLink cn_12 41 (ft_12 18).1 (ft_12 18).2.1 (ft_12 18).2.2.1 ∈ ce_cm := ce_cm_of (List.mem_of_getElem? (i := 1139) (by decide +kernel)) (by decide +kernel)
theorem gf_12_41 (C : ce_Cx p s m args c meth cc nL ret cn_12 D ad cA B0 (ce_St aK aV B0)) (hH : ce_H D ad cA B0 X s h H locs) (hdg : decode cc pc = .ok (.getfield 41, 3)) (kk : W p l e0 R s m args below meth c H locs cells slots Q (F0 m (pc + 3) ls (.ref (ad 78) :: rest))) : W p l e0 R s m args below meth c H locs cells slots Q (F0 m pc ls (.ref (ad 68) :: rest)) := by
  exact ce_get C hH (k := 68) (ci := 12) (j := 18) (N := 43) (sj := some (some 78)) (by decide) rfl rfl fw_12 (by decide) fl_12_41 rfl hdg kk
theorem lc_78 : 78 < 96 ∧ ce_lay 78 = .inl (0, 10) := ⟨by decide, rfl⟩
theorem fl_12_47 : Cond.fieldLink cn_12 47 (ft_12 20).1 (ft_12 20).2.1 (ft_12 20).2.2.1 ∈ ce_cm := ce_cm_of (List.mem_of_getElem? (i := 1141) (by decide +kernel)) (by decide +kernel)
theorem gf_12_47 (C : ce_Cx p s m args c meth cc nL ret cn_12 D ad cA B0 (ce_St aK aV B0)) (hH : ce_H D ad cA B0 X s h H locs) (hdg : decode cc pc = .ok (.getfield 47, 3)) (kk : W p l e0 R s m args below meth c H locs cells slots Q (F0 m (pc + 3) ls (.ref (ad 80) :: rest))) : W p l e0 R s m args below meth c H locs cells slots Q (F0 m pc ls (.ref (ad 68) :: rest)) := by
  exact ce_get C hH (k := 68) (ci := 12) (j := 20) (N := 43) (sj := some (some 80)) (by decide) rfl rfl fw_12 (by decide) fl_12_47 rfl hdg kk
theorem lc_80 : 80 < 96 ∧ ce_lay 80 = .inl (0, 10) := ⟨by decide, rfl⟩
def f12_goes_b10 (F : Nat) (x1 : Int32) (x2 : Int32) (x3 : Int32) (x4 : Int32) (x5 : Int32) (h : Hp) : Option ((Int32 × Int32 × Int32 × Hp) ⊕ (Int32 × Int32 × Hp)) :=
  if (((4 : Int32) * x1) + (4 : Int32)) ≤ x5 then
    some (.inr (x3, x4, h))
  else
    Option.bind (f12_otherOf F x5 h) (fun o23 =>
      if o23.1 < 0 then
        some (.inl (x3, x4, x5 + (1 : Int32), o23.2))
      else
        if ce_in x5 40 = true then
          if (o23.2 76 (x5).toNatClampNeg) ≤ x2 then
            some (.inl (x3, x4, x5 + (1 : Int32), o23.2))
          else
            some (.inl (x3 + (1 : Int32), x5, x5 + (1 : Int32), o23.2))
        else none)
set_option maxRecDepth 20000 in
theorem l12_goes_10 (C : ce_Cx p s m args c meth b12_goes 6 none cn_12 D ad cA B0 (ce_St aK aV B0)) (F : Nat) (x1 : Int32) (x2 : Int32)  (r : Hp) (g : (Int32 × Int32 × Hp) → Option (Hp)) (hx : ∀ (x3 : Int32) (x4 : Int32) (h : Hp) (H : Heap) (locs : List Loc) (ls : Array Slot), ce_H D ad cA B0 [] s h H locs → lv_has ls 6 [(0, .ref (ad 68)), (1, .int x1), (2, .int x2), (3, .int x3), (4, .int x4)] → g (x3, x4, h) = some r → W p l e0 { frames := 1, cells := 0, slots := 0, locals := 21 } s m args below meth c H locs 0 0 (MQ below (ce_Q D ad cA B0 (ce_St aK aV B0) none r) args s 0 0 (fun q => B0 ≤ q)) (F0 m 53 ls [])) : ∀ (n : Nat) (x3 : Int32) (x4 : Int32) (x5 : Int32) (h : Hp) (H : Heap) (locs : List Loc) (ls : Array Slot), ce_H D ad cA B0 [] s h H locs → lv_has ls 6 [(0, .ref (ad 68)), (1, .int x1), (2, .int x2), (3, .int x3), (4, .int x4), (5, .int x5)] → Option.bind (ce_it (fun (st : Int32 × Int32 × Int32 × Hp) => f12_goes_b10 F x1 x2 st.1 st.2.1 st.2.2.1 st.2.2.2) n (x3, x4, x5, h)) g = some r → W p l e0 { frames := 1, cells := 0, slots := 0, locals := 21 } s m args below meth c H locs 0 0 (MQ below (ce_Q D ad cA B0 (ce_St aK aV B0) none r) args s 0 0 (fun q => B0 ≤ q)) (F0 m 10 ls []) := by
  intro n
  induction n with
  | zero =>
    intro x3 x4 x5 h H locs ls hH hl e
    exact absurd e (fun z => by cases z)
  | succ n ih =>
    intro x3 x4 x5 h H locs ls hH hl e
    have hx9 := C.1
    have hb := C.2.1
    have e : Option.bind (f12_goes_b10 F x1 x2 x3 x4 x5 h) _ = some r := ce_it_bd e
    unfold f12_goes_b10 at e
    refine lv_iload hx9 hb d12_goes_10 (lv_at hl 5 rfl) ?_
    refine lv_iconst (v := (4 : Int32)) hx9 hb d12_goes_12 (by decide) ?_
    refine lv_iload_n hx9 hb d12_goes_13 rfl (lv_at hl 1 rfl) ?_
    refine lv_imul hx9 hb d12_goes_14 ?_
    refine lv_iconst (v := (4 : Int32)) hx9 hb d12_goes_15 (by decide) ?_
    refine lv_iadd hx9 hb d12_goes_16 ?_
    refine lv_icmp_ge (tgt := 53) hx9 hb d12_goes_17 (by decide) (fun hc17 => ?_) (fun hc17 => ?_)
    · have e := ce_if1 e hc17
      exact hx x3 x4 h _ _ _ hH (lv_sub hl [0, 1, 2, 3, 4] rfl) e
    · have e := ce_if0 e hc17
      refine lv_aload_n hx9 hb d12_goes_20 rfl (lv_at hl 0 rfl) ?_
      refine lv_iload hx9 hb d12_goes_21 (lv_at hl 5 rfl) ?_
      obtain ⟨o23, eo23, e⟩ := ce_bd e
      refine ce_callV (As := [.int x5]) (rest := []) C (ce_sok aK aV B0) hH (c12_otherOf l D ad cA aK aV B0 C.2.2.2.2.2.2.1 F x5  h o23 eo23) lo_68.1 lo_68.2.choose_spec rfl rfl mc12_otherOf ml_12_224 mi12_otherOf ms12_otherOf mI_12 (n := 1) (by decide) rfl ⟨Nat.le_of_ble_eq_true rfl, Nat.le_of_ble_eq_true rfl⟩ ⟨Nat.le_of_ble_eq_true rfl, Nat.le_of_ble_eq_true rfl⟩ hl.1 rfl (Nat.le_of_ble_eq_true rfl) d12_goes_23 (fun H locs hH => ?_)
      refine W.eq (g2 := F0 m 26 ls [.int o23.1]) rfl ?_
      refine lv_if_lt (tgt := 47) hx9 hb d12_goes_26 (by decide) (fun hc26 => ?_) (fun hc26 => ?_)
      · have e := ce_if1 e hc26
        refine lv_iinc (v := x5 + (1 : Int32)) (lv' := [(5, .int (x5 + (1 : Int32))), (0, .ref (ad 68)), (1, .int x1), (2, .int x2), (3, .int x3), (4, .int x4)]) hx9 hb d12_goes_47 hl (k := 5) rfl rfl (by decide) rfl (fun ls hl => ?_)
        refine lv_goto (tgt := 10) hx9 hb d12_goes_50 (by decide) ?_
        exact ih x3 x4 (x5 + (1 : Int32)) o23.2 _ _ _ hH (lv_sub hl [1, 2, 3, 4, 5, 0] rfl) e
      · have e := ce_if0 e hc26
        refine lv_aload_n hx9 hb d12_goes_29 rfl (lv_at hl 0 rfl) ?_
        refine gf_12_35 C hH d12_goes_30 ?_
        refine lv_iload hx9 hb d12_goes_33 (lv_at hl 5 rfl) ?_
        obtain ⟨hi35, e⟩ := ce_gd e
        refine ce_iald C hH lc_76.1 lc_76.2 (ce_in_vp hi35) d12_goes_35 ?_
        refine lv_iload_n hx9 hb d12_goes_36 rfl (lv_at hl 2 rfl) ?_
        refine lv_icmp_le (tgt := 47) hx9 hb d12_goes_37 (by decide) (fun hc37 => ?_) (fun hc37 => ?_)
        · have e := ce_if1 e hc37
          refine lv_iinc (v := x5 + (1 : Int32)) (lv' := [(5, .int (x5 + (1 : Int32))), (0, .ref (ad 68)), (1, .int x1), (2, .int x2), (3, .int x3), (4, .int x4)]) hx9 hb d12_goes_47 hl (k := 5) rfl rfl (by decide) rfl (fun ls hl => ?_)
          refine lv_goto (tgt := 10) hx9 hb d12_goes_50 (by decide) ?_
          exact ih x3 x4 (x5 + (1 : Int32)) o23.2 _ _ _ hH (lv_sub hl [1, 2, 3, 4, 5, 0] rfl) e
        · have e := ce_if0 e hc37
          refine lv_iinc (v := x3 + (1 : Int32)) (lv' := [(3, .int (x3 + (1 : Int32))), (0, .ref (ad 68)), (1, .int x1), (2, .int x2), (4, .int x4), (5, .int x5)]) hx9 hb d12_goes_40 hl (k := 3) rfl rfl (by decide) rfl (fun ls hl => ?_)
          refine lv_iload hx9 hb d12_goes_43 (lv_at hl 5 rfl) ?_
          refine lv_istore (lv' := [(4, .int x5), (3, .int (x3 + (1 : Int32))), (0, .ref (ad 68)), (1, .int x1), (2, .int x2), (5, .int x5)]) hx9 hb d12_goes_45 hl (by decide) rfl (fun ls hl => ?_)
          refine lv_iinc (v := x5 + (1 : Int32)) (lv' := [(5, .int (x5 + (1 : Int32))), (4, .int x5), (3, .int (x3 + (1 : Int32))), (0, .ref (ad 68)), (1, .int x1), (2, .int x2)]) hx9 hb d12_goes_47 hl (k := 5) rfl rfl (by decide) rfl (fun ls hl => ?_)
          refine lv_goto (tgt := 10) hx9 hb d12_goes_50 (by decide) ?_
          exact ih (x3 + (1 : Int32)) x5 (x5 + (1 : Int32)) o23.2 _ _ _ hH (lv_sub hl [3, 4, 5, 2, 1, 0] rfl) e
def f12_goes_j94 (F : Nat) (x1 : Int32) (x2 : Int32) (x4 : Int32) (s0 : Int32) (s1 : Int32) (h : Hp) : Option (Hp) :=
  if ce_in s1 10 = true then
    ce_nm (hp_up h 79 (s1).toNatClampNeg s0) (fun h_94 =>
      if ce_in ((15 : Int32) + x1) 125 = true then
        if (h_94 69 (((15 : Int32) + x1)).toNatClampNeg) = 0 then
          if ce_in x1 10 = true then
            ce_nm (hp_up h_94 77 (x1).toNatClampNeg x2) (fun h_130 =>
              if ce_in x1 10 = true then
                ce_nm (hp_up h_130 78 (x1).toNatClampNeg x4) (fun h_138 =>
                  Option.bind (f12_otherOf F x4 h_138) (fun o146 =>
                    if ce_in ((85 : Int32) + x4) 125 = true then
                      if ce_in o146.1 40 = true then
                        ce_nm (hp_up o146.2 76 (o146.1).toNatClampNeg (x2 + (o146.2 69 (((85 : Int32) + x4)).toNatClampNeg))) (fun h_161 =>
                          some h_161)
                      else none
                    else none))
              else none)
          else none
        else
          if ce_in x1 10 = true then
            if x2 = ((h_94 79 (x1).toNatClampNeg) + (h_94 69 ((0 : Int32)).toNatClampNeg)) then
              if ce_in x1 10 = true then
                ce_nm (hp_up h_94 77 (x1).toNatClampNeg x2) (fun h_130 =>
                  if ce_in x1 10 = true then
                    ce_nm (hp_up h_130 78 (x1).toNatClampNeg x4) (fun h_138 =>
                      Option.bind (f12_otherOf F x4 h_138) (fun o146 =>
                        if ce_in ((85 : Int32) + x4) 125 = true then
                          if ce_in o146.1 40 = true then
                            ce_nm (hp_up o146.2 76 (o146.1).toNatClampNeg (x2 + (o146.2 69 (((85 : Int32) + x4)).toNatClampNeg))) (fun h_161 =>
                              some h_161)
                          else none
                        else none))
                  else none)
              else none
            else
              some h_94
          else none
      else none)
  else none
set_option maxRecDepth 20000 in
theorem j12_goes_94 (C : ce_Cx p s m args c meth b12_goes 6 none cn_12 D ad cA B0 (ce_St aK aV B0)) (F : Nat) (x1 : Int32) (x2 : Int32) (x4 : Int32) (s0 : Int32) (s1 : Int32)  (r : Hp) (h : Hp) (H : Heap) (locs : List Loc) (ls : Array Slot) (hH : ce_H D ad cA B0 [] s h H locs) (hl : lv_has ls 6 [(0, .ref (ad 68)), (1, .int x1), (2, .int x2), (4, .int x4)]) (e : Option.bind (f12_goes_j94 F x1 x2 x4 s0 s1 h) some = some r) : W p l e0 { frames := 1, cells := 0, slots := 0, locals := 21 } s m args below meth c H locs 0 0 (MQ below (ce_Q D ad cA B0 (ce_St aK aV B0) none r) args s 0 0 (fun q => B0 ≤ q)) (F0 m 94 ls [.int s0, .int s1, .ref (ad 79)]) := by
  have hx9 := C.1
  have hb := C.2.1
  unfold f12_goes_j94 at e
  obtain ⟨hi94, e⟩ := ce_gd e
  refine ce_iast C hH lc_79.1 lc_79.2 (ce_in_vp hi94) d12_goes_94 (fun H locs hH => ?_)
  obtain ⟨h_94, eh_94, e⟩ := ce_nmE e
  rw [← eh_94] at hH
  refine lv_aload_n hx9 hb d12_goes_95 rfl (lv_at hl 0 rfl) ?_
  refine gf_12_7 C hH d12_goes_96 ?_
  refine lv_bipush (v := (15 : Int32)) hx9 hb d12_goes_99 (by decide) ?_
  refine lv_iload_n hx9 hb d12_goes_101 rfl (lv_at hl 1 rfl) ?_
  refine lv_iadd hx9 hb d12_goes_102 ?_
  obtain ⟨hi103, e⟩ := ce_gd e
  refine ce_iald C hH lc_69.1 lc_69.2 (ce_in_vp hi103) d12_goes_103 ?_
  refine lv_if_eq (tgt := 124) hx9 hb d12_goes_104 (by decide) (fun hc104 => ?_) (fun hc104 => ?_)
  · have e := ce_if1 e hc104
    refine lv_aload_n hx9 hb d12_goes_124 rfl (lv_at hl 0 rfl) ?_
    refine gf_12_38 C hH d12_goes_125 ?_
    refine lv_iload_n hx9 hb d12_goes_128 rfl (lv_at hl 1 rfl) ?_
    refine lv_iload_n hx9 hb d12_goes_129 rfl (lv_at hl 2 rfl) ?_
    obtain ⟨hi130, e⟩ := ce_gd e
    refine ce_iast C hH lc_77.1 lc_77.2 (ce_in_vp hi130) d12_goes_130 (fun H locs hH => ?_)
    obtain ⟨h_130, eh_130, e⟩ := ce_nmE e
    rw [← eh_130] at hH
    refine lv_aload_n hx9 hb d12_goes_131 rfl (lv_at hl 0 rfl) ?_
    refine gf_12_41 C hH d12_goes_132 ?_
    refine lv_iload_n hx9 hb d12_goes_135 rfl (lv_at hl 1 rfl) ?_
    refine lv_iload hx9 hb d12_goes_136 (lv_at hl 3 rfl) ?_
    obtain ⟨hi138, e⟩ := ce_gd e
    refine ce_iast C hH lc_78.1 lc_78.2 (ce_in_vp hi138) d12_goes_138 (fun H locs hH => ?_)
    obtain ⟨h_138, eh_138, e⟩ := ce_nmE e
    rw [← eh_138] at hH
    refine lv_aload_n hx9 hb d12_goes_139 rfl (lv_at hl 0 rfl) ?_
    refine gf_12_35 C hH d12_goes_140 ?_
    refine lv_aload_n hx9 hb d12_goes_143 rfl (lv_at hl 0 rfl) ?_
    refine lv_iload hx9 hb d12_goes_144 (lv_at hl 3 rfl) ?_
    obtain ⟨o146, eo146, e⟩ := ce_bd e
    refine ce_callV (As := [.int x4]) (rest := [.ref (ad 76)]) C (ce_sok aK aV B0) hH (c12_otherOf l D ad cA aK aV B0 C.2.2.2.2.2.2.1 F x4  h_138 o146 eo146) lo_68.1 lo_68.2.choose_spec rfl rfl mc12_otherOf ml_12_224 mi12_otherOf ms12_otherOf mI_12 (n := 1) (by decide) rfl ⟨Nat.le_of_ble_eq_true rfl, Nat.le_of_ble_eq_true rfl⟩ ⟨Nat.le_of_ble_eq_true rfl, Nat.le_of_ble_eq_true rfl⟩ hl.1 rfl (Nat.le_of_ble_eq_true rfl) d12_goes_146 (fun H locs hH => ?_)
    refine W.eq (g2 := F0 m 149 ls [.int o146.1, .ref (ad 76)]) rfl ?_
    refine lv_iload_n hx9 hb d12_goes_149 rfl (lv_at hl 2 rfl) ?_
    refine lv_aload_n hx9 hb d12_goes_150 rfl (lv_at hl 0 rfl) ?_
    refine gf_12_7 C hH d12_goes_151 ?_
    refine lv_bipush (v := (85 : Int32)) hx9 hb d12_goes_154 (by decide) ?_
    refine lv_iload hx9 hb d12_goes_156 (lv_at hl 3 rfl) ?_
    refine lv_iadd hx9 hb d12_goes_158 ?_
    obtain ⟨hi159, e⟩ := ce_gd e
    refine ce_iald C hH lc_69.1 lc_69.2 (ce_in_vp hi159) d12_goes_159 ?_
    refine lv_iadd hx9 hb d12_goes_160 ?_
    obtain ⟨hi161, e⟩ := ce_gd e
    refine ce_iast C hH lc_76.1 lc_76.2 (ce_in_vp hi161) d12_goes_161 (fun H locs hH => ?_)
    obtain ⟨h_161, eh_161, e⟩ := ce_nmE e
    rw [← eh_161] at hH
    exact ce_vret C (ce_sok aK aV B0) hH (Option.some.inj e) d12_goes_162
  · have e := ce_if0 e hc104
    refine lv_iload_n hx9 hb d12_goes_107 rfl (lv_at hl 2 rfl) ?_
    refine lv_aload_n hx9 hb d12_goes_108 rfl (lv_at hl 0 rfl) ?_
    refine gf_12_44 C hH d12_goes_109 ?_
    refine lv_iload_n hx9 hb d12_goes_112 rfl (lv_at hl 1 rfl) ?_
    obtain ⟨hi113, e⟩ := ce_gd e
    refine ce_iald C hH lc_79.1 lc_79.2 (ce_in_vp hi113) d12_goes_113 ?_
    refine lv_aload_n hx9 hb d12_goes_114 rfl (lv_at hl 0 rfl) ?_
    refine gf_12_7 C hH d12_goes_115 ?_
    refine lv_iconst (v := (0 : Int32)) hx9 hb d12_goes_118 (by decide) ?_
    refine ce_iald C hH lc_69.1 lc_69.2 (ce_in_vp (by decide)) d12_goes_119 ?_
    refine lv_iadd hx9 hb d12_goes_120 ?_
    refine lv_icmp_ne (tgt := 162) hx9 hb d12_goes_121 (by decide) (fun hc121 => ?_) (fun hc121 => ?_)
    · have e := ce_if0 e hc121
      exact ce_vret C (ce_sok aK aV B0) hH (Option.some.inj e) d12_goes_162
    · have e := ce_if1 e hc121
      refine lv_aload_n hx9 hb d12_goes_124 rfl (lv_at hl 0 rfl) ?_
      refine gf_12_38 C hH d12_goes_125 ?_
      refine lv_iload_n hx9 hb d12_goes_128 rfl (lv_at hl 1 rfl) ?_
      refine lv_iload_n hx9 hb d12_goes_129 rfl (lv_at hl 2 rfl) ?_
      obtain ⟨hi130, e⟩ := ce_gd e
      refine ce_iast C hH lc_77.1 lc_77.2 (ce_in_vp hi130) d12_goes_130 (fun H locs hH => ?_)
      obtain ⟨h_130, eh_130, e⟩ := ce_nmE e
      rw [← eh_130] at hH
      refine lv_aload_n hx9 hb d12_goes_131 rfl (lv_at hl 0 rfl) ?_
      refine gf_12_41 C hH d12_goes_132 ?_
      refine lv_iload_n hx9 hb d12_goes_135 rfl (lv_at hl 1 rfl) ?_
      refine lv_iload hx9 hb d12_goes_136 (lv_at hl 3 rfl) ?_
      obtain ⟨hi138, e⟩ := ce_gd e
      refine ce_iast C hH lc_78.1 lc_78.2 (ce_in_vp hi138) d12_goes_138 (fun H locs hH => ?_)
      obtain ⟨h_138, eh_138, e⟩ := ce_nmE e
      rw [← eh_138] at hH
      refine lv_aload_n hx9 hb d12_goes_139 rfl (lv_at hl 0 rfl) ?_
      refine gf_12_35 C hH d12_goes_140 ?_
      refine lv_aload_n hx9 hb d12_goes_143 rfl (lv_at hl 0 rfl) ?_
      refine lv_iload hx9 hb d12_goes_144 (lv_at hl 3 rfl) ?_
      obtain ⟨o146, eo146, e⟩ := ce_bd e
      refine ce_callV (As := [.int x4]) (rest := [.ref (ad 76)]) C (ce_sok aK aV B0) hH (c12_otherOf l D ad cA aK aV B0 C.2.2.2.2.2.2.1 F x4  h_138 o146 eo146) lo_68.1 lo_68.2.choose_spec rfl rfl mc12_otherOf ml_12_224 mi12_otherOf ms12_otherOf mI_12 (n := 1) (by decide) rfl ⟨Nat.le_of_ble_eq_true rfl, Nat.le_of_ble_eq_true rfl⟩ ⟨Nat.le_of_ble_eq_true rfl, Nat.le_of_ble_eq_true rfl⟩ hl.1 rfl (Nat.le_of_ble_eq_true rfl) d12_goes_146 (fun H locs hH => ?_)
      refine W.eq (g2 := F0 m 149 ls [.int o146.1, .ref (ad 76)]) rfl ?_
      refine lv_iload_n hx9 hb d12_goes_149 rfl (lv_at hl 2 rfl) ?_
      refine lv_aload_n hx9 hb d12_goes_150 rfl (lv_at hl 0 rfl) ?_
      refine gf_12_7 C hH d12_goes_151 ?_
      refine lv_bipush (v := (85 : Int32)) hx9 hb d12_goes_154 (by decide) ?_
      refine lv_iload hx9 hb d12_goes_156 (lv_at hl 3 rfl) ?_
      refine lv_iadd hx9 hb d12_goes_158 ?_
      obtain ⟨hi159, e⟩ := ce_gd e
      refine ce_iald C hH lc_69.1 lc_69.2 (ce_in_vp hi159) d12_goes_159 ?_
      refine lv_iadd hx9 hb d12_goes_160 ?_
      obtain ⟨hi161, e⟩ := ce_gd e
      refine ce_iast C hH lc_76.1 lc_76.2 (ce_in_vp hi161) d12_goes_161 (fun H locs hH => ?_)
      obtain ⟨h_161, eh_161, e⟩ := ce_nmE e
      rw [← eh_161] at hH
      exact ce_vret C (ce_sok aK aV B0) hH (Option.some.inj e) d12_goes_162
def f12_goes_j64 (F : Nat) (x1 : Int32) (x2 : Int32) (x3 : Int32) (x4 : Int32) (h : Hp) : Option (Hp) :=
  if x3 = (1 : Int32) then
    if ce_in x1 10 = true then
      if (h 79 (x1).toNatClampNeg) = (-1 : Int32) then
        f12_goes_j94 F x1 x2 x4 x2 x1 h
      else
        if ce_in x1 10 = true then
          f12_goes_j94 F x1 x2 x4 (h 79 (x1).toNatClampNeg) x1 h
        else none
    else none
  else
    some h
set_option maxRecDepth 20000 in
theorem j12_goes_64 (C : ce_Cx p s m args c meth b12_goes 6 none cn_12 D ad cA B0 (ce_St aK aV B0)) (F : Nat) (x1 : Int32) (x2 : Int32) (x3 : Int32) (x4 : Int32)  (r : Hp) (h : Hp) (H : Heap) (locs : List Loc) (ls : Array Slot) (hH : ce_H D ad cA B0 [] s h H locs) (hl : lv_has ls 6 [(0, .ref (ad 68)), (1, .int x1), (2, .int x2), (3, .int x3), (4, .int x4)]) (e : Option.bind (f12_goes_j64 F x1 x2 x3 x4 h) some = some r) : W p l e0 { frames := 1, cells := 0, slots := 0, locals := 21 } s m args below meth c H locs 0 0 (MQ below (ce_Q D ad cA B0 (ce_St aK aV B0) none r) args s 0 0 (fun q => B0 ≤ q)) (F0 m 64 ls []) := by
  have hx9 := C.1
  have hb := C.2.1
  unfold f12_goes_j64 at e
  refine lv_iload_n hx9 hb d12_goes_64 rfl (lv_at hl 3 rfl) ?_
  refine lv_iconst (v := (1 : Int32)) hx9 hb d12_goes_65 (by decide) ?_
  refine lv_icmp_ne (tgt := 162) hx9 hb d12_goes_66 (by decide) (fun hc66 => ?_) (fun hc66 => ?_)
  · have e := ce_if0 e hc66
    exact ce_vret C (ce_sok aK aV B0) hH (Option.some.inj e) d12_goes_162
  · have e := ce_if1 e hc66
    refine lv_aload_n hx9 hb d12_goes_69 rfl (lv_at hl 0 rfl) ?_
    refine gf_12_44 C hH d12_goes_70 ?_
    refine lv_iload_n hx9 hb d12_goes_73 rfl (lv_at hl 1 rfl) ?_
    refine lv_aload_n hx9 hb d12_goes_74 rfl (lv_at hl 0 rfl) ?_
    refine gf_12_44 C hH d12_goes_75 ?_
    refine lv_iload_n hx9 hb d12_goes_78 rfl (lv_at hl 1 rfl) ?_
    obtain ⟨hi79, e⟩ := ce_gd e
    refine ce_iald C hH lc_79.1 lc_79.2 (ce_in_vp hi79) d12_goes_79 ?_
    refine lv_iconst (v := (-1 : Int32)) hx9 hb d12_goes_80 (by decide) ?_
    refine lv_icmp_ne (tgt := 88) hx9 hb d12_goes_81 (by decide) (fun hc81 => ?_) (fun hc81 => ?_)
    · have e := ce_if0 e hc81
      refine lv_aload_n hx9 hb d12_goes_88 rfl (lv_at hl 0 rfl) ?_
      refine gf_12_44 C hH d12_goes_89 ?_
      refine lv_iload_n hx9 hb d12_goes_92 rfl (lv_at hl 1 rfl) ?_
      obtain ⟨hi93, e⟩ := ce_gd e
      refine ce_iald C hH lc_79.1 lc_79.2 (ce_in_vp hi93) d12_goes_93 ?_
      exact j12_goes_94 C F x1 x2 x4 (h 79 (x1).toNatClampNeg) x1  r h _ _ _ hH (lv_sub hl [0, 1, 2, 4] rfl) e
    · have e := ce_if1 e hc81
      refine lv_iload_n hx9 hb d12_goes_84 rfl (lv_at hl 2 rfl) ?_
      refine lv_goto (tgt := 94) hx9 hb d12_goes_85 (by decide) ?_
      exact j12_goes_94 C F x1 x2 x4 x2 x1  r h _ _ _ hH (lv_sub hl [0, 1, 2, 4] rfl) e
def f12_goes (F : Nat) (x1 : Int32) (x2 : Int32) (h : Hp) : Option (Hp) :=
  Option.bind (ce_it (fun (st : Int32 × Int32 × Int32 × Hp) => f12_goes_b10 F x1 x2 st.1 st.2.1 st.2.2.1 st.2.2.2) F ((0 : Int32), (-1 : Int32), (4 : Int32) * x1, h)) (fun o10 =>
    if o10.1 = 0 then
      if ce_in x1 10 = true then
        ce_nm (hp_up o10.2.2 80 (x1).toNatClampNeg x2) (fun h_63 =>
          f12_goes_j64 F x1 x2 o10.1 o10.2.1 h_63)
      else none
    else
      f12_goes_j64 F x1 x2 o10.1 o10.2.1 o10.2.2)
set_option maxRecDepth 20000 in
theorem c12_goes (l : Launch) (D : va_G) (ad : Nat → Nat) (cA : Nat → ClassId) (aK aV : Nat → Nat) (B0 : Nat) (hA : ce_Ad ad B0) (F : Nat) (x1 : Int32) (x2 : Int32)  (h : Hp) (r : Hp) (e : f12_goes F x1 x2 h = some r) : ce_Ct l D ad cA B0 (ce_St aK aV B0) y12_goes b12_goes 6 none 1 21 0 0 [.ref (ad 68), .int x1, .int x2] h none r := by
  refine ce_enter hA (by decide) rfl (Nat.le_of_ble_eq_true rfl) (fun p e0 s m below meth c ls C hH hl => ?_)
  have hl : lv_has ls 6 [(0, .ref (ad 68)), (1, .int x1), (2, .int x2)] := hl
  have hx := C.1
  have hb := C.2.1
  have e : Option.bind _ some = some r := (congrArg (fun z => Option.bind z some) e).trans rfl
  unfold f12_goes at e
  refine lv_iconst (v := (0 : Int32)) hx hb d12_goes_0 (by decide) ?_
  refine lv_istore_n (lv' := [(3, .int (0 : Int32)), (0, .ref (ad 68)), (1, .int x1), (2, .int x2)]) hx hb d12_goes_1 rfl hl (by decide) rfl (fun ls hl => ?_)
  refine lv_iconst (v := (-1 : Int32)) hx hb d12_goes_2 (by decide) ?_
  refine lv_istore (lv' := [(4, .int (-1 : Int32)), (3, .int (0 : Int32)), (0, .ref (ad 68)), (1, .int x1), (2, .int x2)]) hx hb d12_goes_3 hl (by decide) rfl (fun ls hl => ?_)
  refine lv_iconst (v := (4 : Int32)) hx hb d12_goes_5 (by decide) ?_
  refine lv_iload_n hx hb d12_goes_6 rfl (lv_at hl 3 rfl) ?_
  refine lv_imul hx hb d12_goes_7 ?_
  refine lv_istore (lv' := [(5, .int ((4 : Int32) * x1)), (4, .int (-1 : Int32)), (3, .int (0 : Int32)), (0, .ref (ad 68)), (1, .int x1), (2, .int x2)]) hx hb d12_goes_8 hl (by decide) rfl (fun ls hl => ?_)
  refine l12_goes_10 C F x1 x2  r _ (fun y10_3 y10_4 h_10 H locs ls hH hl e => ?_) F (0 : Int32) (-1 : Int32) ((4 : Int32) * x1) h _ _ _ hH (lv_sub hl [3, 4, 5, 2, 1, 0] rfl) (ce_as e)
  try dsimp only at e
  refine lv_iload_n hx hb d12_goes_53 rfl (lv_at hl 3 rfl) ?_
  refine lv_if_ne (tgt := 64) hx hb d12_goes_54 (by decide) (fun hc54 => ?_) (fun hc54 => ?_)
  · have e := ce_if0 e hc54
    exact j12_goes_64 C F x1 x2 y10_3 y10_4  r h_10 _ _ _ hH (lv_sub hl [0, 1, 2, 3, 4] rfl) e
  · have e := ce_if1 e hc54
    refine lv_aload_n hx hb d12_goes_57 rfl (lv_at hl 0 rfl) ?_
    refine gf_12_47 C hH d12_goes_58 ?_
    refine lv_iload_n hx hb d12_goes_61 rfl (lv_at hl 1 rfl) ?_
    refine lv_iload_n hx hb d12_goes_62 rfl (lv_at hl 2 rfl) ?_
    obtain ⟨hi63, e⟩ := ce_gd e
    refine ce_iast C hH lc_80.1 lc_80.2 (ce_in_vp hi63) d12_goes_63 (fun H locs hH => ?_)
    obtain ⟨h_63, eh_63, e⟩ := ce_nmE e
    rw [← eh_63] at hH
    exact j12_goes_64 C F x1 x2 y10_3 y10_4  r h_63 _ _ _ hH (lv_sub hl [0, 1, 2, 3, 4] rfl) e
abbrev b12_bitOf : ByteArray := prog_14_method_39_code
def y12_bitOf : MethodName := ⟨cn_12, "bitOf", "(II)I"⟩
theorem d12_bitOf_0 : decode b12_bitOf 0 = .ok (.aload_n 0, 1) := by decide +kernel
theorem d12_bitOf_1 : decode b12_bitOf 1 = .ok (.getfield 7, 3) := by decide +kernel
theorem d12_bitOf_4 : decode b12_bitOf 4 = .ok (.bipush 35, 2) := by decide +kernel
theorem d12_bitOf_6 : decode b12_bitOf 6 = .ok (.iload_n 1, 1) := by decide +kernel
theorem d12_bitOf_7 : decode b12_bitOf 7 = .ok (.iadd, 1) := by decide +kernel
theorem d12_bitOf_8 : decode b12_bitOf 8 = .ok (.iaload, 1) := by decide +kernel
theorem d12_bitOf_9 : decode b12_bitOf 9 = .ok (.aload_n 0, 1) := by decide +kernel
theorem d12_bitOf_10 : decode b12_bitOf 10 = .ok (.getfield 7, 3) := by decide +kernel
theorem d12_bitOf_13 : decode b12_bitOf 13 = .ok (.bipush 25, 2) := by decide +kernel
theorem d12_bitOf_15 : decode b12_bitOf 15 = .ok (.iload_n 1, 1) := by decide +kernel
theorem d12_bitOf_16 : decode b12_bitOf 16 = .ok (.iadd, 1) := by decide +kernel
theorem d12_bitOf_17 : decode b12_bitOf 17 = .ok (.iaload, 1) := by decide +kernel
theorem d12_bitOf_18 : decode b12_bitOf 18 = .ok (.iconst 1, 1) := by decide +kernel
theorem d12_bitOf_19 : decode b12_bitOf 19 = .ok (.isub, 1) := by decide +kernel
theorem d12_bitOf_20 : decode b12_bitOf 20 = .ok (.iload_n 2, 1) := by decide +kernel
theorem d12_bitOf_21 : decode b12_bitOf 21 = .ok (.aload_n 0, 1) := by decide +kernel
theorem d12_bitOf_22 : decode b12_bitOf 22 = .ok (.getfield 7, 3) := by decide +kernel
theorem d12_bitOf_25 : decode b12_bitOf 25 = .ok (.bipush 25, 2) := by decide +kernel
theorem d12_bitOf_27 : decode b12_bitOf 27 = .ok (.iload_n 1, 1) := by decide +kernel
theorem d12_bitOf_28 : decode b12_bitOf 28 = .ok (.iadd, 1) := by decide +kernel
theorem d12_bitOf_29 : decode b12_bitOf 29 = .ok (.iaload, 1) := by decide +kernel
theorem d12_bitOf_30 : decode b12_bitOf 30 = .ok (.irem, 1) := by decide +kernel
theorem d12_bitOf_31 : decode b12_bitOf 31 = .ok (.isub, 1) := by decide +kernel
theorem d12_bitOf_32 : decode b12_bitOf 32 = .ok (.ishr, 1) := by decide +kernel
theorem d12_bitOf_33 : decode b12_bitOf 33 = .ok (.iconst 1, 1) := by decide +kernel
theorem d12_bitOf_34 : decode b12_bitOf 34 = .ok (.iand, 1) := by decide +kernel
theorem d12_bitOf_35 : decode b12_bitOf 35 = .ok (.ireturn, 1) := by decide +kernel
def f12_bitOf (F : Nat) (x1 : Int32) (x2 : Int32) (h : Hp) : Option (Int32 × Hp) :=
  if ce_in ((35 : Int32) + x1) 125 = true then
    if ce_in ((25 : Int32) + x1) 125 = true then
      if ce_in ((25 : Int32) + x1) 125 = true then
        if ¬ h 69 (((25 : Int32) + x1)).toNatClampNeg = 0 then
          some (((h 69 (((35 : Int32) + x1)).toNatClampNeg) >>> ((((h 69 (((25 : Int32) + x1)).toNatClampNeg) - (1 : Int32)) - (x2 - x2 / (h 69 (((25 : Int32) + x1)).toNatClampNeg) * (h 69 (((25 : Int32) + x1)).toNatClampNeg))) &&& 31)) &&& (1 : Int32), h)
        else none
      else none
    else none
  else none
set_option maxRecDepth 20000 in
theorem c12_bitOf (l : Launch) (D : va_G) (ad : Nat → Nat) (cA : Nat → ClassId) (aK aV : Nat → Nat) (B0 : Nat) (hA : ce_Ad ad B0) (F : Nat) (x1 : Int32) (x2 : Int32)  (h : Hp) (r : Int32 × Hp) (e : f12_bitOf F x1 x2 h = some r) : ce_Ct l D ad cA B0 (ce_St aK aV B0) y12_bitOf b12_bitOf 3 (some .int) 0 0 0 0 [.ref (ad 68), .int x1, .int x2] h (some (.int r.1)) r.2 := by
  refine ce_enter hA (by decide) rfl (Nat.le_of_ble_eq_true rfl) (fun p e0 s m below meth c ls C hH hl => ?_)
  have hl : lv_has ls 3 [(0, .ref (ad 68)), (1, .int x1), (2, .int x2)] := hl
  have hx := C.1
  have hb := C.2.1
  have e : Option.bind _ some = some r := (congrArg (fun z => Option.bind z some) e).trans rfl
  unfold f12_bitOf at e
  refine lv_aload_n hx hb d12_bitOf_0 rfl (lv_at hl 0 rfl) ?_
  refine gf_12_7 C hH d12_bitOf_1 ?_
  refine lv_bipush (v := (35 : Int32)) hx hb d12_bitOf_4 (by decide) ?_
  refine lv_iload_n hx hb d12_bitOf_6 rfl (lv_at hl 1 rfl) ?_
  refine lv_iadd hx hb d12_bitOf_7 ?_
  obtain ⟨hi8, e⟩ := ce_gd e
  refine ce_iald C hH lc_69.1 lc_69.2 (ce_in_vp hi8) d12_bitOf_8 ?_
  refine lv_aload_n hx hb d12_bitOf_9 rfl (lv_at hl 0 rfl) ?_
  refine gf_12_7 C hH d12_bitOf_10 ?_
  refine lv_bipush (v := (25 : Int32)) hx hb d12_bitOf_13 (by decide) ?_
  refine lv_iload_n hx hb d12_bitOf_15 rfl (lv_at hl 1 rfl) ?_
  refine lv_iadd hx hb d12_bitOf_16 ?_
  obtain ⟨hi17, e⟩ := ce_gd e
  refine ce_iald C hH lc_69.1 lc_69.2 (ce_in_vp hi17) d12_bitOf_17 ?_
  refine lv_iconst (v := (1 : Int32)) hx hb d12_bitOf_18 (by decide) ?_
  refine lv_isub hx hb d12_bitOf_19 ?_
  refine lv_iload_n hx hb d12_bitOf_20 rfl (lv_at hl 2 rfl) ?_
  refine lv_aload_n hx hb d12_bitOf_21 rfl (lv_at hl 0 rfl) ?_
  refine gf_12_7 C hH d12_bitOf_22 ?_
  refine lv_bipush (v := (25 : Int32)) hx hb d12_bitOf_25 (by decide) ?_
  refine lv_iload_n hx hb d12_bitOf_27 rfl (lv_at hl 1 rfl) ?_
  refine lv_iadd hx hb d12_bitOf_28 ?_
  obtain ⟨hi29, e⟩ := ce_gd e
  refine ce_iald C hH lc_69.1 lc_69.2 (ce_in_vp hi29) d12_bitOf_29 ?_
  obtain ⟨hc30, e⟩ := ce_gd e
  refine lv_irem hx hb d12_bitOf_30 hc30 ?_
  refine lv_isub hx hb d12_bitOf_31 ?_
  refine lv_ishr hx hb d12_bitOf_32 ?_
  refine lv_iconst (v := (1 : Int32)) hx hb d12_bitOf_33 (by decide) ?_
  refine lv_iand hx hb d12_bitOf_34 ?_
  exact ce_iretE C (ce_sok aK aV B0) hH e d12_bitOf_35
abbrev b12_meets : ByteArray := prog_14_method_40_code
def y12_meets : MethodName := ⟨cn_12, "meets", "(I)V"⟩
theorem d12_meets_0 : decode b12_meets 0 = .ok (.aload_n 0, 1) := by decide +kernel
theorem d12_meets_1 : decode b12_meets 1 = .ok (.getfield 41, 3) := by decide +kernel
theorem d12_meets_4 : decode b12_meets 4 = .ok (.iload_n 1, 1) := by decide +kernel
theorem d12_meets_5 : decode b12_meets 5 = .ok (.iaload, 1) := by decide +kernel
theorem d12_meets_6 : decode b12_meets 6 = .ok (.iconst (-1), 1) := by decide +kernel
theorem d12_meets_7 : decode b12_meets 7 = .ok (.if_icmp .eq 19, 3) := by decide +kernel
theorem d12_meets_10 : decode b12_meets 10 = .ok (.aload_n 0, 1) := by decide +kernel
theorem d12_meets_11 : decode b12_meets 11 = .ok (.aload_n 0, 1) := by decide +kernel
theorem d12_meets_12 : decode b12_meets 12 = .ok (.getfield 41, 3) := by decide +kernel
theorem d12_meets_15 : decode b12_meets 15 = .ok (.iload_n 1, 1) := by decide +kernel
theorem d12_meets_16 : decode b12_meets 16 = .ok (.iaload, 1) := by decide +kernel
theorem d12_meets_17 : decode b12_meets 17 = .ok (.invokevirtual 224, 3) := by decide +kernel
theorem d12_meets_20 : decode b12_meets 20 = .ok (.iconst 4, 1) := by decide +kernel
theorem d12_meets_21 : decode b12_meets 21 = .ok (.idiv, 1) := by decide +kernel
theorem d12_meets_22 : decode b12_meets 22 = .ok (.iload_n 1, 1) := by decide +kernel
theorem d12_meets_23 : decode b12_meets 23 = .ok (.if_icmp .ge 4, 3) := by decide +kernel
theorem d12_meets_26 : decode b12_meets 26 = .ok (.return_, 1) := by decide +kernel
theorem d12_meets_27 : decode b12_meets 27 = .ok (.aload_n 0, 1) := by decide +kernel
theorem d12_meets_28 : decode b12_meets 28 = .ok (.aload_n 0, 1) := by decide +kernel
theorem d12_meets_29 : decode b12_meets 29 = .ok (.getfield 41, 3) := by decide +kernel
theorem d12_meets_32 : decode b12_meets 32 = .ok (.iload_n 1, 1) := by decide +kernel
theorem d12_meets_33 : decode b12_meets 33 = .ok (.iaload, 1) := by decide +kernel
theorem d12_meets_34 : decode b12_meets 34 = .ok (.invokevirtual 224, 3) := by decide +kernel
theorem d12_meets_37 : decode b12_meets 37 = .ok (.iconst 4, 1) := by decide +kernel
theorem d12_meets_38 : decode b12_meets 38 = .ok (.idiv, 1) := by decide +kernel
theorem d12_meets_39 : decode b12_meets 39 = .ok (.istore_n 2, 1) := by decide +kernel
theorem d12_meets_40 : decode b12_meets 40 = .ok (.aload_n 0, 1) := by decide +kernel
theorem d12_meets_41 : decode b12_meets 41 = .ok (.getfield 41, 3) := by decide +kernel
theorem d12_meets_44 : decode b12_meets 44 = .ok (.iload_n 2, 1) := by decide +kernel
theorem d12_meets_45 : decode b12_meets 45 = .ok (.iaload, 1) := by decide +kernel
theorem d12_meets_46 : decode b12_meets 46 = .ok (.aload_n 0, 1) := by decide +kernel
theorem d12_meets_47 : decode b12_meets 47 = .ok (.aload_n 0, 1) := by decide +kernel
theorem d12_meets_48 : decode b12_meets 48 = .ok (.getfield 41, 3) := by decide +kernel
theorem d12_meets_51 : decode b12_meets 51 = .ok (.iload_n 1, 1) := by decide +kernel
theorem d12_meets_52 : decode b12_meets 52 = .ok (.iaload, 1) := by decide +kernel
theorem d12_meets_53 : decode b12_meets 53 = .ok (.invokevirtual 224, 3) := by decide +kernel
theorem d12_meets_56 : decode b12_meets 56 = .ok (.if_icmp .eq 4, 3) := by decide +kernel
theorem d12_meets_59 : decode b12_meets 59 = .ok (.return_, 1) := by decide +kernel
theorem d12_meets_60 : decode b12_meets 60 = .ok (.aload_n 0, 1) := by decide +kernel
theorem d12_meets_61 : decode b12_meets 61 = .ok (.getfield 7, 3) := by decide +kernel
theorem d12_meets_64 : decode b12_meets 64 = .ok (.bipush 85, 2) := by decide +kernel
theorem d12_meets_66 : decode b12_meets 66 = .ok (.aload_n 0, 1) := by decide +kernel
theorem d12_meets_67 : decode b12_meets 67 = .ok (.getfield 41, 3) := by decide +kernel
theorem d12_meets_70 : decode b12_meets 70 = .ok (.iload_n 1, 1) := by decide +kernel
theorem d12_meets_71 : decode b12_meets 71 = .ok (.iaload, 1) := by decide +kernel
theorem d12_meets_72 : decode b12_meets 72 = .ok (.iadd, 1) := by decide +kernel
theorem d12_meets_73 : decode b12_meets 73 = .ok (.iaload, 1) := by decide +kernel
theorem d12_meets_74 : decode b12_meets 74 = .ok (.istore_n 3, 1) := by decide +kernel
theorem d12_meets_75 : decode b12_meets 75 = .ok (.aload_n 0, 1) := by decide +kernel
theorem d12_meets_76 : decode b12_meets 76 = .ok (.getfield 35, 3) := by decide +kernel
theorem d12_meets_79 : decode b12_meets 79 = .ok (.aload_n 0, 1) := by decide +kernel
theorem d12_meets_80 : decode b12_meets 80 = .ok (.getfield 41, 3) := by decide +kernel
theorem d12_meets_83 : decode b12_meets 83 = .ok (.iload_n 1, 1) := by decide +kernel
theorem d12_meets_84 : decode b12_meets 84 = .ok (.iaload, 1) := by decide +kernel
theorem d12_meets_85 : decode b12_meets 85 = .ok (.iaload, 1) := by decide +kernel
theorem d12_meets_86 : decode b12_meets 86 = .ok (.aload_n 0, 1) := by decide +kernel
theorem d12_meets_87 : decode b12_meets 87 = .ok (.getfield 35, 3) := by decide +kernel
theorem d12_meets_90 : decode b12_meets 90 = .ok (.aload_n 0, 1) := by decide +kernel
theorem d12_meets_91 : decode b12_meets 91 = .ok (.getfield 41, 3) := by decide +kernel
theorem d12_meets_94 : decode b12_meets 94 = .ok (.iload_n 2, 1) := by decide +kernel
theorem d12_meets_95 : decode b12_meets 95 = .ok (.iaload, 1) := by decide +kernel
theorem d12_meets_96 : decode b12_meets 96 = .ok (.iaload, 1) := by decide +kernel
theorem d12_meets_97 : decode b12_meets 97 = .ok (.invokestatic 189, 3) := by decide +kernel
theorem d12_meets_100 : decode b12_meets 100 = .ok (.istore 4, 2) := by decide +kernel
theorem d12_meets_102 : decode b12_meets 102 = .ok (.iconst 0, 1) := by decide +kernel
theorem d12_meets_103 : decode b12_meets 103 = .ok (.istore 5, 2) := by decide +kernel
theorem d12_meets_105 : decode b12_meets 105 = .ok (.iconst (-1), 1) := by decide +kernel
theorem d12_meets_106 : decode b12_meets 106 = .ok (.istore 6, 2) := by decide +kernel
theorem d12_meets_108 : decode b12_meets 108 = .ok (.iload 6, 2) := by decide +kernel
theorem d12_meets_110 : decode b12_meets 110 = .ok (.iconst (-1), 1) := by decide +kernel
theorem d12_meets_111 : decode b12_meets 111 = .ok (.if_icmp .ne 85, 3) := by decide +kernel
theorem d12_meets_114 : decode b12_meets 114 = .ok (.iload 5, 2) := by decide +kernel
theorem d12_meets_116 : decode b12_meets 116 = .ok (.bipush 10, 2) := by decide +kernel
theorem d12_meets_118 : decode b12_meets 118 = .ok (.if_icmp .ne 9, 3) := by decide +kernel
theorem d12_meets_121 : decode b12_meets 121 = .ok (.iload_n 2, 1) := by decide +kernel
theorem d12_meets_122 : decode b12_meets 122 = .ok (.istore 6, 2) := by decide +kernel
theorem d12_meets_124 : decode b12_meets 124 = .ok (.goto (-16), 3) := by decide +kernel
theorem d12_meets_127 : decode b12_meets 127 = .ok (.aload_n 0, 1) := by decide +kernel
theorem d12_meets_128 : decode b12_meets 128 = .ok (.iload_n 1, 1) := by decide +kernel
theorem d12_meets_129 : decode b12_meets 129 = .ok (.iload 5, 2) := by decide +kernel
theorem d12_meets_131 : decode b12_meets 131 = .ok (.invokevirtual 253, 3) := by decide +kernel
theorem d12_meets_134 : decode b12_meets 134 = .ok (.istore 7, 2) := by decide +kernel
theorem d12_meets_136 : decode b12_meets 136 = .ok (.aload_n 0, 1) := by decide +kernel
theorem d12_meets_137 : decode b12_meets 137 = .ok (.iload_n 2, 1) := by decide +kernel
theorem d12_meets_138 : decode b12_meets 138 = .ok (.iload 5, 2) := by decide +kernel
theorem d12_meets_140 : decode b12_meets 140 = .ok (.invokevirtual 253, 3) := by decide +kernel
theorem d12_meets_143 : decode b12_meets 143 = .ok (.istore 8, 2) := by decide +kernel
theorem d12_meets_145 : decode b12_meets 145 = .ok (.iinc 5 1, 3) := by decide +kernel
theorem d12_meets_148 : decode b12_meets 148 = .ok (.iload 7, 2) := by decide +kernel
theorem d12_meets_150 : decode b12_meets 150 = .ok (.iload 8, 2) := by decide +kernel
theorem d12_meets_152 : decode b12_meets 152 = .ok (.if_icmp .eq 16, 3) := by decide +kernel
theorem d12_meets_155 : decode b12_meets 155 = .ok (.iload 7, 2) := by decide +kernel
theorem d12_meets_157 : decode b12_meets 157 = .ok (.iconst 1, 1) := by decide +kernel
theorem d12_meets_158 : decode b12_meets 158 = .ok (.if_icmp .ne 7, 3) := by decide +kernel
theorem d12_meets_161 : decode b12_meets 161 = .ok (.iload_n 1, 1) := by decide +kernel
theorem d12_meets_162 : decode b12_meets 162 = .ok (.goto 4, 3) := by decide +kernel
theorem d12_meets_165 : decode b12_meets 165 = .ok (.iload_n 2, 1) := by decide +kernel
theorem d12_meets_166 : decode b12_meets 166 = .ok (.istore 6, 2) := by decide +kernel
theorem d12_meets_168 : decode b12_meets 168 = .ok (.iload 4, 2) := by decide +kernel
theorem d12_meets_170 : decode b12_meets 170 = .ok (.iconst 2, 1) := by decide +kernel
theorem d12_meets_171 : decode b12_meets 171 = .ok (.iload_n 3, 1) := by decide +kernel
theorem d12_meets_172 : decode b12_meets 172 = .ok (.imul, 1) := by decide +kernel
theorem d12_meets_173 : decode b12_meets 173 = .ok (.iload 7, 2) := by decide +kernel
theorem d12_meets_175 : decode b12_meets 175 = .ok (.ifCond .ne 12, 3) := by decide +kernel
theorem d12_meets_178 : decode b12_meets 178 = .ok (.iload 8, 2) := by decide +kernel
theorem d12_meets_180 : decode b12_meets 180 = .ok (.ifCond .ne 7, 3) := by decide +kernel
theorem d12_meets_183 : decode b12_meets 183 = .ok (.iconst 2, 1) := by decide +kernel
theorem d12_meets_184 : decode b12_meets 184 = .ok (.goto 5, 3) := by decide +kernel
theorem d12_meets_187 : decode b12_meets 187 = .ok (.bipush 6, 2) := by decide +kernel
theorem d12_meets_189 : decode b12_meets 189 = .ok (.iadd, 1) := by decide +kernel
theorem d12_meets_190 : decode b12_meets 190 = .ok (.iadd, 1) := by decide +kernel
theorem d12_meets_191 : decode b12_meets 191 = .ok (.istore 4, 2) := by decide +kernel
theorem d12_meets_193 : decode b12_meets 193 = .ok (.goto (-85), 3) := by decide +kernel
theorem d12_meets_196 : decode b12_meets 196 = .ok (.aload_n 0, 1) := by decide +kernel
theorem d12_meets_197 : decode b12_meets 197 = .ok (.getfield 47, 3) := by decide +kernel
theorem d12_meets_200 : decode b12_meets 200 = .ok (.iload 6, 2) := by decide +kernel
theorem d12_meets_202 : decode b12_meets 202 = .ok (.iload 4, 2) := by decide +kernel
theorem d12_meets_204 : decode b12_meets 204 = .ok (.iastore, 1) := by decide +kernel
theorem d12_meets_205 : decode b12_meets 205 = .ok (.aload_n 0, 1) := by decide +kernel
theorem d12_meets_206 : decode b12_meets 206 = .ok (.getfield 50, 3) := by decide +kernel
theorem d12_meets_209 : decode b12_meets 209 = .ok (.iload_n 1, 1) := by decide +kernel
theorem d12_meets_210 : decode b12_meets 210 = .ok (.iload 5, 2) := by decide +kernel
theorem d12_meets_212 : decode b12_meets 212 = .ok (.iastore, 1) := by decide +kernel
theorem d12_meets_213 : decode b12_meets 213 = .ok (.aload_n 0, 1) := by decide +kernel
theorem d12_meets_214 : decode b12_meets 214 = .ok (.getfield 50, 3) := by decide +kernel
theorem d12_meets_217 : decode b12_meets 217 = .ok (.iload_n 2, 1) := by decide +kernel
theorem d12_meets_218 : decode b12_meets 218 = .ok (.iload 5, 2) := by decide +kernel
theorem d12_meets_220 : decode b12_meets 220 = .ok (.iastore, 1) := by decide +kernel
theorem d12_meets_221 : decode b12_meets 221 = .ok (.return_, 1) := by decide +kernel
theorem mc12_bitOf : Cond.code y12_bitOf b12_bitOf 3 (some .int) ∈ ce_cm := ce_cm_of (List.mem_of_getElem? (i := 1413) (by decide +kernel)) (by decide +kernel)
theorem ml_12_253 : Cond.methodLink cn_12 253 y12_bitOf ∈ ce_cm := ce_cm_of (List.mem_of_getElem? (i := 1410) (by decide +kernel)) (by decide +kernel)
theorem mi12_bitOf : Cond.instanceMethod y12_bitOf ∈ ce_cm := ce_cm_of (List.mem_of_getElem? (i := 1412) (by decide +kernel)) (by decide +kernel)
theorem ms12_bitOf : Cond.selects cn_12 y12_bitOf y12_bitOf ∈ ce_cm := ce_cm_of (List.mem_of_getElem? (i := 59) (by decide +kernel)) (by decide +kernel)
theorem fl_12_50 : Cond.fieldLink cn_12 50 (ft_12 21).1 (ft_12 21).2.1 (ft_12 21).2.2.1 ∈ ce_cm := ce_cm_of (List.mem_of_getElem? (i := 1142) (by decide +kernel)) (by decide +kernel)
theorem gf_12_50 (C : ce_Cx p s m args c meth cc nL ret cn_12 D ad cA B0 (ce_St aK aV B0)) (hH : ce_H D ad cA B0 X s h H locs) (hdg : decode cc pc = .ok (.getfield 50, 3)) (kk : W p l e0 R s m args below meth c H locs cells slots Q (F0 m (pc + 3) ls (.ref (ad 81) :: rest))) : W p l e0 R s m args below meth c H locs cells slots Q (F0 m pc ls (.ref (ad 68) :: rest)) := by
  exact ce_get C hH (k := 68) (ci := 12) (j := 21) (N := 43) (sj := some (some 81)) (by decide) rfl rfl fw_12 (by decide) fl_12_50 rfl hdg kk
theorem lc_81 : 81 < 96 ∧ ce_lay 81 = .inl (0, 10) := ⟨by decide, rfl⟩
def f12_meets_b108 (F : Nat) (x1 : Int32) (x2 : Int32) (x3 : Int32) (x4 : Int32) (x5 : Int32) (x6 : Int32) (h : Hp) : Option ((Int32 × Int32 × Int32 × Hp) ⊕ (Int32 × Int32 × Int32 × Hp)) :=
  if x6 = (-1 : Int32) then
    if x5 = (10 : Int32) then
      some (.inl (x4, x5, x2, h))
    else
      Option.bind (f12_bitOf F x1 x5 h) (fun o131 =>
        Option.bind (f12_bitOf F x2 x5 o131.2) (fun o140 =>
          if o131.1 = o140.1 then
            if o131.1 = 0 then
              if o140.1 = 0 then
                some (.inl (x4 + (((2 : Int32) * x3) + (2 : Int32)), x5 + (1 : Int32), x6, o140.2))
              else
                some (.inl (x4 + (((2 : Int32) * x3) + (6 : Int32)), x5 + (1 : Int32), x6, o140.2))
            else
              some (.inl (x4 + (((2 : Int32) * x3) + (6 : Int32)), x5 + (1 : Int32), x6, o140.2))
          else
            if o131.1 = (1 : Int32) then
              if o131.1 = 0 then
                if o140.1 = 0 then
                  some (.inl (x4 + (((2 : Int32) * x3) + (2 : Int32)), x5 + (1 : Int32), x1, o140.2))
                else
                  some (.inl (x4 + (((2 : Int32) * x3) + (6 : Int32)), x5 + (1 : Int32), x1, o140.2))
              else
                some (.inl (x4 + (((2 : Int32) * x3) + (6 : Int32)), x5 + (1 : Int32), x1, o140.2))
            else
              if o131.1 = 0 then
                if o140.1 = 0 then
                  some (.inl (x4 + (((2 : Int32) * x3) + (2 : Int32)), x5 + (1 : Int32), x2, o140.2))
                else
                  some (.inl (x4 + (((2 : Int32) * x3) + (6 : Int32)), x5 + (1 : Int32), x2, o140.2))
              else
                some (.inl (x4 + (((2 : Int32) * x3) + (6 : Int32)), x5 + (1 : Int32), x2, o140.2))))
  else
    some (.inr (x4, x5, x6, h))
set_option maxRecDepth 20000 in
theorem l12_meets_108 (C : ce_Cx p s m args c meth b12_meets 9 none cn_12 D ad cA B0 (ce_St aK aV B0)) (F : Nat) (x1 : Int32) (x2 : Int32) (x3 : Int32)  (r : Hp) (g : (Int32 × Int32 × Int32 × Hp) → Option (Hp)) (hx : ∀ (x4 : Int32) (x5 : Int32) (x6 : Int32) (h : Hp) (H : Heap) (locs : List Loc) (ls : Array Slot), ce_H D ad cA B0 [] s h H locs → lv_has ls 9 [(0, .ref (ad 68)), (1, .int x1), (2, .int x2), (4, .int x4), (5, .int x5), (6, .int x6)] → g (x4, x5, x6, h) = some r → W p l e0 { frames := 1, cells := 0, slots := 0, locals := 24 } s m args below meth c H locs 0 0 (MQ below (ce_Q D ad cA B0 (ce_St aK aV B0) none r) args s 0 0 (fun q => B0 ≤ q)) (F0 m 196 ls [])) : ∀ (n : Nat) (x4 : Int32) (x5 : Int32) (x6 : Int32) (h : Hp) (H : Heap) (locs : List Loc) (ls : Array Slot), ce_H D ad cA B0 [] s h H locs → lv_has ls 9 [(0, .ref (ad 68)), (1, .int x1), (2, .int x2), (3, .int x3), (4, .int x4), (5, .int x5), (6, .int x6)] → Option.bind (ce_it (fun (st : Int32 × Int32 × Int32 × Hp) => f12_meets_b108 F x1 x2 x3 st.1 st.2.1 st.2.2.1 st.2.2.2) n (x4, x5, x6, h)) g = some r → W p l e0 { frames := 1, cells := 0, slots := 0, locals := 24 } s m args below meth c H locs 0 0 (MQ below (ce_Q D ad cA B0 (ce_St aK aV B0) none r) args s 0 0 (fun q => B0 ≤ q)) (F0 m 108 ls []) := by
  intro n
  induction n with
  | zero =>
    intro x4 x5 x6 h H locs ls hH hl e
    exact absurd e (fun z => by cases z)
  | succ n ih =>
    intro x4 x5 x6 h H locs ls hH hl e
    have hx9 := C.1
    have hb := C.2.1
    have e : Option.bind (f12_meets_b108 F x1 x2 x3 x4 x5 x6 h) _ = some r := ce_it_bd e
    unfold f12_meets_b108 at e
    refine lv_iload hx9 hb d12_meets_108 (lv_at hl 6 rfl) ?_
    refine lv_iconst (v := (-1 : Int32)) hx9 hb d12_meets_110 (by decide) ?_
    refine lv_icmp_ne (tgt := 196) hx9 hb d12_meets_111 (by decide) (fun hc111 => ?_) (fun hc111 => ?_)
    · have e := ce_if0 e hc111
      exact hx x4 x5 x6 h _ _ _ hH (lv_sub hl [0, 1, 2, 4, 5, 6] rfl) e
    · have e := ce_if1 e hc111
      refine lv_iload hx9 hb d12_meets_114 (lv_at hl 5 rfl) ?_
      refine lv_bipush (v := (10 : Int32)) hx9 hb d12_meets_116 (by decide) ?_
      refine lv_icmp_ne (tgt := 127) hx9 hb d12_meets_118 (by decide) (fun hc118 => ?_) (fun hc118 => ?_)
      · have e := ce_if0 e hc118
        refine lv_aload_n hx9 hb d12_meets_127 rfl (lv_at hl 0 rfl) ?_
        refine lv_iload_n hx9 hb d12_meets_128 rfl (lv_at hl 1 rfl) ?_
        refine lv_iload hx9 hb d12_meets_129 (lv_at hl 5 rfl) ?_
        obtain ⟨o131, eo131, e⟩ := ce_bd e
        refine ce_callV (As := [.int x1, .int x5]) (rest := []) C (ce_sok aK aV B0) hH (c12_bitOf l D ad cA aK aV B0 C.2.2.2.2.2.2.1 F x1 x5  h o131 eo131) lo_68.1 lo_68.2.choose_spec rfl rfl mc12_bitOf ml_12_253 mi12_bitOf ms12_bitOf mI_12 (n := 2) (by decide) rfl ⟨Nat.le_of_ble_eq_true rfl, Nat.le_of_ble_eq_true rfl⟩ ⟨Nat.le_of_ble_eq_true rfl, Nat.le_of_ble_eq_true rfl⟩ hl.1 rfl (Nat.le_of_ble_eq_true rfl) d12_meets_131 (fun H locs hH => ?_)
        refine W.eq (g2 := F0 m 134 ls [.int o131.1]) rfl ?_
        refine lv_istore (lv' := [(7, .int o131.1), (0, .ref (ad 68)), (1, .int x1), (2, .int x2), (3, .int x3), (4, .int x4), (5, .int x5), (6, .int x6)]) hx9 hb d12_meets_134 hl (by decide) rfl (fun ls hl => ?_)
        refine lv_aload_n hx9 hb d12_meets_136 rfl (lv_at hl 1 rfl) ?_
        refine lv_iload_n hx9 hb d12_meets_137 rfl (lv_at hl 3 rfl) ?_
        refine lv_iload hx9 hb d12_meets_138 (lv_at hl 6 rfl) ?_
        obtain ⟨o140, eo140, e⟩ := ce_bd e
        refine ce_callV (As := [.int x2, .int x5]) (rest := []) C (ce_sok aK aV B0) hH (c12_bitOf l D ad cA aK aV B0 C.2.2.2.2.2.2.1 F x2 x5  o131.2 o140 eo140) lo_68.1 lo_68.2.choose_spec rfl rfl mc12_bitOf ml_12_253 mi12_bitOf ms12_bitOf mI_12 (n := 2) (by decide) rfl ⟨Nat.le_of_ble_eq_true rfl, Nat.le_of_ble_eq_true rfl⟩ ⟨Nat.le_of_ble_eq_true rfl, Nat.le_of_ble_eq_true rfl⟩ hl.1 rfl (Nat.le_of_ble_eq_true rfl) d12_meets_140 (fun H locs hH => ?_)
        refine W.eq (g2 := F0 m 143 ls [.int o140.1]) rfl ?_
        refine lv_istore (lv' := [(8, .int o140.1), (7, .int o131.1), (0, .ref (ad 68)), (1, .int x1), (2, .int x2), (3, .int x3), (4, .int x4), (5, .int x5), (6, .int x6)]) hx9 hb d12_meets_143 hl (by decide) rfl (fun ls hl => ?_)
        refine lv_iinc (v := x5 + (1 : Int32)) (lv' := [(5, .int (x5 + (1 : Int32))), (8, .int o140.1), (7, .int o131.1), (0, .ref (ad 68)), (1, .int x1), (2, .int x2), (3, .int x3), (4, .int x4), (6, .int x6)]) hx9 hb d12_meets_145 hl (k := 7) rfl rfl (by decide) rfl (fun ls hl => ?_)
        refine lv_iload hx9 hb d12_meets_148 (lv_at hl 2 rfl) ?_
        refine lv_iload hx9 hb d12_meets_150 (lv_at hl 1 rfl) ?_
        refine lv_icmp_eq (tgt := 168) hx9 hb d12_meets_152 (by decide) (fun hc152 => ?_) (fun hc152 => ?_)
        · have e := ce_if1 e hc152
          refine lv_iload hx9 hb d12_meets_168 (lv_at hl 7 rfl) ?_
          refine lv_iconst (v := (2 : Int32)) hx9 hb d12_meets_170 (by decide) ?_
          refine lv_iload_n hx9 hb d12_meets_171 rfl (lv_at hl 6 rfl) ?_
          refine lv_imul hx9 hb d12_meets_172 ?_
          refine lv_iload hx9 hb d12_meets_173 (lv_at hl 2 rfl) ?_
          refine lv_if_ne (tgt := 187) hx9 hb d12_meets_175 (by decide) (fun hc175 => ?_) (fun hc175 => ?_)
          · have e := ce_if0 e hc175
            refine lv_bipush (v := (6 : Int32)) hx9 hb d12_meets_187 (by decide) ?_
            refine lv_iadd hx9 hb d12_meets_189 ?_
            refine lv_iadd hx9 hb d12_meets_190 ?_
            refine lv_istore (lv' := [(4, .int (x4 + (((2 : Int32) * x3) + (6 : Int32)))), (5, .int (x5 + (1 : Int32))), (8, .int o140.1), (7, .int o131.1), (0, .ref (ad 68)), (1, .int x1), (2, .int x2), (3, .int x3), (6, .int x6)]) hx9 hb d12_meets_191 hl (by decide) rfl (fun ls hl => ?_)
            refine lv_goto (tgt := 108) hx9 hb d12_meets_193 (by decide) ?_
            exact ih (x4 + (((2 : Int32) * x3) + (6 : Int32))) (x5 + (1 : Int32)) x6 o140.2 _ _ _ hH (lv_sub hl [4, 5, 6, 7, 0, 1, 8] rfl) e
          · have e := ce_if1 e hc175
            refine lv_iload hx9 hb d12_meets_178 (lv_at hl 1 rfl) ?_
            refine lv_if_ne (tgt := 187) hx9 hb d12_meets_180 (by decide) (fun hc180 => ?_) (fun hc180 => ?_)
            · have e := ce_if0 e hc180
              refine lv_bipush (v := (6 : Int32)) hx9 hb d12_meets_187 (by decide) ?_
              refine lv_iadd hx9 hb d12_meets_189 ?_
              refine lv_iadd hx9 hb d12_meets_190 ?_
              refine lv_istore (lv' := [(4, .int (x4 + (((2 : Int32) * x3) + (6 : Int32)))), (5, .int (x5 + (1 : Int32))), (8, .int o140.1), (7, .int o131.1), (0, .ref (ad 68)), (1, .int x1), (2, .int x2), (3, .int x3), (6, .int x6)]) hx9 hb d12_meets_191 hl (by decide) rfl (fun ls hl => ?_)
              refine lv_goto (tgt := 108) hx9 hb d12_meets_193 (by decide) ?_
              exact ih (x4 + (((2 : Int32) * x3) + (6 : Int32))) (x5 + (1 : Int32)) x6 o140.2 _ _ _ hH (lv_sub hl [4, 5, 6, 7, 0, 1, 8] rfl) e
            · have e := ce_if1 e hc180
              refine lv_iconst (v := (2 : Int32)) hx9 hb d12_meets_183 (by decide) ?_
              refine lv_goto (tgt := 189) hx9 hb d12_meets_184 (by decide) ?_
              refine lv_iadd hx9 hb d12_meets_189 ?_
              refine lv_iadd hx9 hb d12_meets_190 ?_
              refine lv_istore (lv' := [(4, .int (x4 + (((2 : Int32) * x3) + (2 : Int32)))), (5, .int (x5 + (1 : Int32))), (8, .int o140.1), (7, .int o131.1), (0, .ref (ad 68)), (1, .int x1), (2, .int x2), (3, .int x3), (6, .int x6)]) hx9 hb d12_meets_191 hl (by decide) rfl (fun ls hl => ?_)
              refine lv_goto (tgt := 108) hx9 hb d12_meets_193 (by decide) ?_
              exact ih (x4 + (((2 : Int32) * x3) + (2 : Int32))) (x5 + (1 : Int32)) x6 o140.2 _ _ _ hH (lv_sub hl [4, 5, 6, 7, 0, 1, 8] rfl) e
        · have e := ce_if0 e hc152
          refine lv_iload hx9 hb d12_meets_155 (lv_at hl 2 rfl) ?_
          refine lv_iconst (v := (1 : Int32)) hx9 hb d12_meets_157 (by decide) ?_
          refine lv_icmp_ne (tgt := 165) hx9 hb d12_meets_158 (by decide) (fun hc158 => ?_) (fun hc158 => ?_)
          · have e := ce_if0 e hc158
            refine lv_iload_n hx9 hb d12_meets_165 rfl (lv_at hl 5 rfl) ?_
            refine lv_istore (lv' := [(6, .int x2), (5, .int (x5 + (1 : Int32))), (8, .int o140.1), (7, .int o131.1), (0, .ref (ad 68)), (1, .int x1), (2, .int x2), (3, .int x3), (4, .int x4)]) hx9 hb d12_meets_166 hl (by decide) rfl (fun ls hl => ?_)
            refine lv_iload hx9 hb d12_meets_168 (lv_at hl 8 rfl) ?_
            refine lv_iconst (v := (2 : Int32)) hx9 hb d12_meets_170 (by decide) ?_
            refine lv_iload_n hx9 hb d12_meets_171 rfl (lv_at hl 7 rfl) ?_
            refine lv_imul hx9 hb d12_meets_172 ?_
            refine lv_iload hx9 hb d12_meets_173 (lv_at hl 3 rfl) ?_
            refine lv_if_ne (tgt := 187) hx9 hb d12_meets_175 (by decide) (fun hc175 => ?_) (fun hc175 => ?_)
            · have e := ce_if0 e hc175
              refine lv_bipush (v := (6 : Int32)) hx9 hb d12_meets_187 (by decide) ?_
              refine lv_iadd hx9 hb d12_meets_189 ?_
              refine lv_iadd hx9 hb d12_meets_190 ?_
              refine lv_istore (lv' := [(4, .int (x4 + (((2 : Int32) * x3) + (6 : Int32)))), (6, .int x2), (5, .int (x5 + (1 : Int32))), (8, .int o140.1), (7, .int o131.1), (0, .ref (ad 68)), (1, .int x1), (2, .int x2), (3, .int x3)]) hx9 hb d12_meets_191 hl (by decide) rfl (fun ls hl => ?_)
              refine lv_goto (tgt := 108) hx9 hb d12_meets_193 (by decide) ?_
              exact ih (x4 + (((2 : Int32) * x3) + (6 : Int32))) (x5 + (1 : Int32)) x2 o140.2 _ _ _ hH (lv_sub hl [5, 6, 7, 8, 0, 2, 1] rfl) e
            · have e := ce_if1 e hc175
              refine lv_iload hx9 hb d12_meets_178 (lv_at hl 2 rfl) ?_
              refine lv_if_ne (tgt := 187) hx9 hb d12_meets_180 (by decide) (fun hc180 => ?_) (fun hc180 => ?_)
              · have e := ce_if0 e hc180
                refine lv_bipush (v := (6 : Int32)) hx9 hb d12_meets_187 (by decide) ?_
                refine lv_iadd hx9 hb d12_meets_189 ?_
                refine lv_iadd hx9 hb d12_meets_190 ?_
                refine lv_istore (lv' := [(4, .int (x4 + (((2 : Int32) * x3) + (6 : Int32)))), (6, .int x2), (5, .int (x5 + (1 : Int32))), (8, .int o140.1), (7, .int o131.1), (0, .ref (ad 68)), (1, .int x1), (2, .int x2), (3, .int x3)]) hx9 hb d12_meets_191 hl (by decide) rfl (fun ls hl => ?_)
                refine lv_goto (tgt := 108) hx9 hb d12_meets_193 (by decide) ?_
                exact ih (x4 + (((2 : Int32) * x3) + (6 : Int32))) (x5 + (1 : Int32)) x2 o140.2 _ _ _ hH (lv_sub hl [5, 6, 7, 8, 0, 2, 1] rfl) e
              · have e := ce_if1 e hc180
                refine lv_iconst (v := (2 : Int32)) hx9 hb d12_meets_183 (by decide) ?_
                refine lv_goto (tgt := 189) hx9 hb d12_meets_184 (by decide) ?_
                refine lv_iadd hx9 hb d12_meets_189 ?_
                refine lv_iadd hx9 hb d12_meets_190 ?_
                refine lv_istore (lv' := [(4, .int (x4 + (((2 : Int32) * x3) + (2 : Int32)))), (6, .int x2), (5, .int (x5 + (1 : Int32))), (8, .int o140.1), (7, .int o131.1), (0, .ref (ad 68)), (1, .int x1), (2, .int x2), (3, .int x3)]) hx9 hb d12_meets_191 hl (by decide) rfl (fun ls hl => ?_)
                refine lv_goto (tgt := 108) hx9 hb d12_meets_193 (by decide) ?_
                exact ih (x4 + (((2 : Int32) * x3) + (2 : Int32))) (x5 + (1 : Int32)) x2 o140.2 _ _ _ hH (lv_sub hl [5, 6, 7, 8, 0, 2, 1] rfl) e
          · have e := ce_if1 e hc158
            refine lv_iload_n hx9 hb d12_meets_161 rfl (lv_at hl 4 rfl) ?_
            refine lv_goto (tgt := 166) hx9 hb d12_meets_162 (by decide) ?_
            refine lv_istore (lv' := [(6, .int x1), (5, .int (x5 + (1 : Int32))), (8, .int o140.1), (7, .int o131.1), (0, .ref (ad 68)), (1, .int x1), (2, .int x2), (3, .int x3), (4, .int x4)]) hx9 hb d12_meets_166 hl (by decide) rfl (fun ls hl => ?_)
            refine lv_iload hx9 hb d12_meets_168 (lv_at hl 8 rfl) ?_
            refine lv_iconst (v := (2 : Int32)) hx9 hb d12_meets_170 (by decide) ?_
            refine lv_iload_n hx9 hb d12_meets_171 rfl (lv_at hl 7 rfl) ?_
            refine lv_imul hx9 hb d12_meets_172 ?_
            refine lv_iload hx9 hb d12_meets_173 (lv_at hl 3 rfl) ?_
            refine lv_if_ne (tgt := 187) hx9 hb d12_meets_175 (by decide) (fun hc175 => ?_) (fun hc175 => ?_)
            · have e := ce_if0 e hc175
              refine lv_bipush (v := (6 : Int32)) hx9 hb d12_meets_187 (by decide) ?_
              refine lv_iadd hx9 hb d12_meets_189 ?_
              refine lv_iadd hx9 hb d12_meets_190 ?_
              refine lv_istore (lv' := [(4, .int (x4 + (((2 : Int32) * x3) + (6 : Int32)))), (6, .int x1), (5, .int (x5 + (1 : Int32))), (8, .int o140.1), (7, .int o131.1), (0, .ref (ad 68)), (1, .int x1), (2, .int x2), (3, .int x3)]) hx9 hb d12_meets_191 hl (by decide) rfl (fun ls hl => ?_)
              refine lv_goto (tgt := 108) hx9 hb d12_meets_193 (by decide) ?_
              exact ih (x4 + (((2 : Int32) * x3) + (6 : Int32))) (x5 + (1 : Int32)) x1 o140.2 _ _ _ hH (lv_sub hl [5, 6, 7, 8, 0, 2, 1] rfl) e
            · have e := ce_if1 e hc175
              refine lv_iload hx9 hb d12_meets_178 (lv_at hl 2 rfl) ?_
              refine lv_if_ne (tgt := 187) hx9 hb d12_meets_180 (by decide) (fun hc180 => ?_) (fun hc180 => ?_)
              · have e := ce_if0 e hc180
                refine lv_bipush (v := (6 : Int32)) hx9 hb d12_meets_187 (by decide) ?_
                refine lv_iadd hx9 hb d12_meets_189 ?_
                refine lv_iadd hx9 hb d12_meets_190 ?_
                refine lv_istore (lv' := [(4, .int (x4 + (((2 : Int32) * x3) + (6 : Int32)))), (6, .int x1), (5, .int (x5 + (1 : Int32))), (8, .int o140.1), (7, .int o131.1), (0, .ref (ad 68)), (1, .int x1), (2, .int x2), (3, .int x3)]) hx9 hb d12_meets_191 hl (by decide) rfl (fun ls hl => ?_)
                refine lv_goto (tgt := 108) hx9 hb d12_meets_193 (by decide) ?_
                exact ih (x4 + (((2 : Int32) * x3) + (6 : Int32))) (x5 + (1 : Int32)) x1 o140.2 _ _ _ hH (lv_sub hl [5, 6, 7, 8, 0, 2, 1] rfl) e
              · have e := ce_if1 e hc180
                refine lv_iconst (v := (2 : Int32)) hx9 hb d12_meets_183 (by decide) ?_
                refine lv_goto (tgt := 189) hx9 hb d12_meets_184 (by decide) ?_
                refine lv_iadd hx9 hb d12_meets_189 ?_
                refine lv_iadd hx9 hb d12_meets_190 ?_
                refine lv_istore (lv' := [(4, .int (x4 + (((2 : Int32) * x3) + (2 : Int32)))), (6, .int x1), (5, .int (x5 + (1 : Int32))), (8, .int o140.1), (7, .int o131.1), (0, .ref (ad 68)), (1, .int x1), (2, .int x2), (3, .int x3)]) hx9 hb d12_meets_191 hl (by decide) rfl (fun ls hl => ?_)
                refine lv_goto (tgt := 108) hx9 hb d12_meets_193 (by decide) ?_
                exact ih (x4 + (((2 : Int32) * x3) + (2 : Int32))) (x5 + (1 : Int32)) x1 o140.2 _ _ _ hH (lv_sub hl [5, 6, 7, 8, 0, 2, 1] rfl) e
      · have e := ce_if1 e hc118
        refine lv_iload_n hx9 hb d12_meets_121 rfl (lv_at hl 2 rfl) ?_
        refine lv_istore (lv' := [(6, .int x2), (0, .ref (ad 68)), (1, .int x1), (2, .int x2), (3, .int x3), (4, .int x4), (5, .int x5)]) hx9 hb d12_meets_122 hl (by decide) rfl (fun ls hl => ?_)
        refine lv_goto (tgt := 108) hx9 hb d12_meets_124 (by decide) ?_
        exact ih x4 x5 x2 h _ _ _ hH (lv_sub hl [1, 2, 3, 4, 5, 6, 0] rfl) e
def f12_meets (F : Nat) (x1 : Int32) (h : Hp) : Option (Hp) :=
  if ce_in x1 10 = true then
    if (h 78 (x1).toNatClampNeg) = (-1 : Int32) then
      some h
    else
      if ce_in x1 10 = true then
        Option.bind (f12_otherOf F (h 78 (x1).toNatClampNeg) h) (fun o17 =>
          if x1 ≤ (o17.1 / (4 : Int32)) then
            if ce_in x1 10 = true then
              Option.bind (f12_otherOf F (o17.2 78 (x1).toNatClampNeg) o17.2) (fun o34 =>
                if ce_in (o34.1 / (4 : Int32)) 10 = true then
                  if ce_in x1 10 = true then
                    Option.bind (f12_otherOf F (o34.2 78 (x1).toNatClampNeg) o34.2) (fun o53 =>
                      if (o34.2 78 ((o34.1 / (4 : Int32))).toNatClampNeg) = o53.1 then
                        if ce_in x1 10 = true then
                          if ce_in ((85 : Int32) + (o53.2 78 (x1).toNatClampNeg)) 125 = true then
                            if ce_in x1 10 = true then
                              if ce_in (o53.2 78 (x1).toNatClampNeg) 40 = true then
                                if ce_in (o34.1 / (4 : Int32)) 10 = true then
                                  if ce_in (o53.2 78 ((o34.1 / (4 : Int32))).toNatClampNeg) 40 = true then
                                    Option.bind (ce_it (fun (st : Int32 × Int32 × Int32 × Hp) => f12_meets_b108 F x1 (o34.1 / (4 : Int32)) (o53.2 69 (((85 : Int32) + (o53.2 78 (x1).toNatClampNeg))).toNatClampNeg) st.1 st.2.1 st.2.2.1 st.2.2.2) F ((if (o53.2 76 ((o53.2 78 (x1).toNatClampNeg)).toNatClampNeg) < (o53.2 76 ((o53.2 78 ((o34.1 / (4 : Int32))).toNatClampNeg)).toNatClampNeg) then (o53.2 76 ((o53.2 78 ((o34.1 / (4 : Int32))).toNatClampNeg)).toNatClampNeg) else (o53.2 76 ((o53.2 78 (x1).toNatClampNeg)).toNatClampNeg)), (0 : Int32), (-1 : Int32), o53.2)) (fun o108 =>
                                      if ce_in o108.2.2.1 10 = true then
                                        ce_nm (hp_up o108.2.2.2 80 (o108.2.2.1).toNatClampNeg o108.1) (fun h_204 =>
                                          if ce_in x1 10 = true then
                                            ce_nm (hp_up h_204 81 (x1).toNatClampNeg o108.2.1) (fun h_212 =>
                                              if ce_in (o34.1 / (4 : Int32)) 10 = true then
                                                ce_nm (hp_up h_212 81 ((o34.1 / (4 : Int32))).toNatClampNeg o108.2.1) (fun h_220 =>
                                                  some h_220)
                                              else none)
                                          else none)
                                      else none)
                                  else none
                                else none
                              else none
                            else none
                          else none
                        else none
                      else
                        some o53.2)
                  else none
                else none)
            else none
          else
            some o17.2)
      else none
  else none
set_option maxRecDepth 20000 in
theorem c12_meets (l : Launch) (D : va_G) (ad : Nat → Nat) (cA : Nat → ClassId) (aK aV : Nat → Nat) (B0 : Nat) (hA : ce_Ad ad B0) (F : Nat) (x1 : Int32)  (h : Hp) (r : Hp) (e : f12_meets F x1 h = some r) : ce_Ct l D ad cA B0 (ce_St aK aV B0) y12_meets b12_meets 9 none 1 24 0 0 [.ref (ad 68), .int x1] h none r := by
  refine ce_enter hA (by decide) rfl (Nat.le_of_ble_eq_true rfl) (fun p e0 s m below meth c ls C hH hl => ?_)
  have hl : lv_has ls 9 [(0, .ref (ad 68)), (1, .int x1)] := hl
  have hx := C.1
  have hb := C.2.1
  have e : Option.bind _ some = some r := (congrArg (fun z => Option.bind z some) e).trans rfl
  unfold f12_meets at e
  refine lv_aload_n hx hb d12_meets_0 rfl (lv_at hl 0 rfl) ?_
  refine gf_12_41 C hH d12_meets_1 ?_
  refine lv_iload_n hx hb d12_meets_4 rfl (lv_at hl 1 rfl) ?_
  obtain ⟨hi5, e⟩ := ce_gd e
  refine ce_iald C hH lc_78.1 lc_78.2 (ce_in_vp hi5) d12_meets_5 ?_
  refine lv_iconst (v := (-1 : Int32)) hx hb d12_meets_6 (by decide) ?_
  refine lv_icmp_eq (tgt := 26) hx hb d12_meets_7 (by decide) (fun hc7 => ?_) (fun hc7 => ?_)
  · have e := ce_if1 e hc7
    exact ce_vret C (ce_sok aK aV B0) hH (Option.some.inj e) d12_meets_26
  · have e := ce_if0 e hc7
    refine lv_aload_n hx hb d12_meets_10 rfl (lv_at hl 0 rfl) ?_
    refine lv_aload_n hx hb d12_meets_11 rfl (lv_at hl 0 rfl) ?_
    refine gf_12_41 C hH d12_meets_12 ?_
    refine lv_iload_n hx hb d12_meets_15 rfl (lv_at hl 1 rfl) ?_
    obtain ⟨hi16, e⟩ := ce_gd e
    refine ce_iald C hH lc_78.1 lc_78.2 (ce_in_vp hi16) d12_meets_16 ?_
    obtain ⟨o17, eo17, e⟩ := ce_bd e
    refine ce_callV (As := [.int (h 78 (x1).toNatClampNeg)]) (rest := []) C (ce_sok aK aV B0) hH (c12_otherOf l D ad cA aK aV B0 C.2.2.2.2.2.2.1 F (h 78 (x1).toNatClampNeg)  h o17 eo17) lo_68.1 lo_68.2.choose_spec rfl rfl mc12_otherOf ml_12_224 mi12_otherOf ms12_otherOf mI_12 (n := 1) (by decide) rfl ⟨Nat.le_of_ble_eq_true rfl, Nat.le_of_ble_eq_true rfl⟩ ⟨Nat.le_of_ble_eq_true rfl, Nat.le_of_ble_eq_true rfl⟩ hl.1 rfl (Nat.le_of_ble_eq_true rfl) d12_meets_17 (fun H locs hH => ?_)
    refine W.eq (g2 := F0 m 20 ls [.int o17.1]) rfl ?_
    refine lv_iconst (v := (4 : Int32)) hx hb d12_meets_20 (by decide) ?_
    refine lv_idiv hx hb d12_meets_21 (by decide) ?_
    refine lv_iload_n hx hb d12_meets_22 rfl (lv_at hl 1 rfl) ?_
    refine lv_icmp_ge (tgt := 27) hx hb d12_meets_23 (by decide) (fun hc23 => ?_) (fun hc23 => ?_)
    · have e := ce_if1 e hc23
      refine lv_aload_n hx hb d12_meets_27 rfl (lv_at hl 0 rfl) ?_
      refine lv_aload_n hx hb d12_meets_28 rfl (lv_at hl 0 rfl) ?_
      refine gf_12_41 C hH d12_meets_29 ?_
      refine lv_iload_n hx hb d12_meets_32 rfl (lv_at hl 1 rfl) ?_
      obtain ⟨hi33, e⟩ := ce_gd e
      refine ce_iald C hH lc_78.1 lc_78.2 (ce_in_vp hi33) d12_meets_33 ?_
      obtain ⟨o34, eo34, e⟩ := ce_bd e
      refine ce_callV (As := [.int (o17.2 78 (x1).toNatClampNeg)]) (rest := []) C (ce_sok aK aV B0) hH (c12_otherOf l D ad cA aK aV B0 C.2.2.2.2.2.2.1 F (o17.2 78 (x1).toNatClampNeg)  o17.2 o34 eo34) lo_68.1 lo_68.2.choose_spec rfl rfl mc12_otherOf ml_12_224 mi12_otherOf ms12_otherOf mI_12 (n := 1) (by decide) rfl ⟨Nat.le_of_ble_eq_true rfl, Nat.le_of_ble_eq_true rfl⟩ ⟨Nat.le_of_ble_eq_true rfl, Nat.le_of_ble_eq_true rfl⟩ hl.1 rfl (Nat.le_of_ble_eq_true rfl) d12_meets_34 (fun H locs hH => ?_)
      refine W.eq (g2 := F0 m 37 ls [.int o34.1]) rfl ?_
      refine lv_iconst (v := (4 : Int32)) hx hb d12_meets_37 (by decide) ?_
      refine lv_idiv hx hb d12_meets_38 (by decide) ?_
      refine lv_istore_n (lv' := [(2, .int (o34.1 / (4 : Int32))), (0, .ref (ad 68)), (1, .int x1)]) hx hb d12_meets_39 rfl hl (by decide) rfl (fun ls hl => ?_)
      refine lv_aload_n hx hb d12_meets_40 rfl (lv_at hl 1 rfl) ?_
      refine gf_12_41 C hH d12_meets_41 ?_
      refine lv_iload_n hx hb d12_meets_44 rfl (lv_at hl 0 rfl) ?_
      obtain ⟨hi45, e⟩ := ce_gd e
      refine ce_iald C hH lc_78.1 lc_78.2 (ce_in_vp hi45) d12_meets_45 ?_
      refine lv_aload_n hx hb d12_meets_46 rfl (lv_at hl 1 rfl) ?_
      refine lv_aload_n hx hb d12_meets_47 rfl (lv_at hl 1 rfl) ?_
      refine gf_12_41 C hH d12_meets_48 ?_
      refine lv_iload_n hx hb d12_meets_51 rfl (lv_at hl 2 rfl) ?_
      obtain ⟨hi52, e⟩ := ce_gd e
      refine ce_iald C hH lc_78.1 lc_78.2 (ce_in_vp hi52) d12_meets_52 ?_
      obtain ⟨o53, eo53, e⟩ := ce_bd e
      refine ce_callV (As := [.int (o34.2 78 (x1).toNatClampNeg)]) (rest := [.int (o34.2 78 ((o34.1 / (4 : Int32))).toNatClampNeg)]) C (ce_sok aK aV B0) hH (c12_otherOf l D ad cA aK aV B0 C.2.2.2.2.2.2.1 F (o34.2 78 (x1).toNatClampNeg)  o34.2 o53 eo53) lo_68.1 lo_68.2.choose_spec rfl rfl mc12_otherOf ml_12_224 mi12_otherOf ms12_otherOf mI_12 (n := 1) (by decide) rfl ⟨Nat.le_of_ble_eq_true rfl, Nat.le_of_ble_eq_true rfl⟩ ⟨Nat.le_of_ble_eq_true rfl, Nat.le_of_ble_eq_true rfl⟩ hl.1 rfl (Nat.le_of_ble_eq_true rfl) d12_meets_53 (fun H locs hH => ?_)
      refine W.eq (g2 := F0 m 56 ls [.int o53.1, .int (o34.2 78 ((o34.1 / (4 : Int32))).toNatClampNeg)]) rfl ?_
      refine lv_icmp_eq (tgt := 60) hx hb d12_meets_56 (by decide) (fun hc56 => ?_) (fun hc56 => ?_)
      · have e := ce_if1 e hc56
        refine lv_aload_n hx hb d12_meets_60 rfl (lv_at hl 1 rfl) ?_
        refine gf_12_7 C hH d12_meets_61 ?_
        refine lv_bipush (v := (85 : Int32)) hx hb d12_meets_64 (by decide) ?_
        refine lv_aload_n hx hb d12_meets_66 rfl (lv_at hl 1 rfl) ?_
        refine gf_12_41 C hH d12_meets_67 ?_
        refine lv_iload_n hx hb d12_meets_70 rfl (lv_at hl 2 rfl) ?_
        obtain ⟨hi71, e⟩ := ce_gd e
        refine ce_iald C hH lc_78.1 lc_78.2 (ce_in_vp hi71) d12_meets_71 ?_
        refine lv_iadd hx hb d12_meets_72 ?_
        obtain ⟨hi73, e⟩ := ce_gd e
        refine ce_iald C hH lc_69.1 lc_69.2 (ce_in_vp hi73) d12_meets_73 ?_
        refine lv_istore_n (lv' := [(3, .int (o53.2 69 (((85 : Int32) + (o53.2 78 (x1).toNatClampNeg))).toNatClampNeg)), (2, .int (o34.1 / (4 : Int32))), (0, .ref (ad 68)), (1, .int x1)]) hx hb d12_meets_74 rfl hl (by decide) rfl (fun ls hl => ?_)
        refine lv_aload_n hx hb d12_meets_75 rfl (lv_at hl 2 rfl) ?_
        refine gf_12_35 C hH d12_meets_76 ?_
        refine lv_aload_n hx hb d12_meets_79 rfl (lv_at hl 2 rfl) ?_
        refine gf_12_41 C hH d12_meets_80 ?_
        refine lv_iload_n hx hb d12_meets_83 rfl (lv_at hl 3 rfl) ?_
        obtain ⟨hi84, e⟩ := ce_gd e
        refine ce_iald C hH lc_78.1 lc_78.2 (ce_in_vp hi84) d12_meets_84 ?_
        obtain ⟨hi85, e⟩ := ce_gd e
        refine ce_iald C hH lc_76.1 lc_76.2 (ce_in_vp hi85) d12_meets_85 ?_
        refine lv_aload_n hx hb d12_meets_86 rfl (lv_at hl 2 rfl) ?_
        refine gf_12_35 C hH d12_meets_87 ?_
        refine lv_aload_n hx hb d12_meets_90 rfl (lv_at hl 2 rfl) ?_
        refine gf_12_41 C hH d12_meets_91 ?_
        refine lv_iload_n hx hb d12_meets_94 rfl (lv_at hl 1 rfl) ?_
        obtain ⟨hi95, e⟩ := ce_gd e
        refine ce_iald C hH lc_78.1 lc_78.2 (ce_in_vp hi95) d12_meets_95 ?_
        obtain ⟨hi96, e⟩ := ce_gd e
        refine ce_iald C hH lc_76.1 lc_76.2 (ce_in_vp hi96) d12_meets_96 ?_
        refine va_mmax hx hb (C.2.2.1.trans hl.1.symm) C.2.2.2.1 (C.2.2.2.2.1 _ ml_12_189) (C.2.2.2.2.1 _ mt_Mmax) (C.2.2.2.2.1 _ mI_M) (C.2.2.2.2.1 _ mc_Mmax) (Nat.le_of_ble_eq_true rfl) (Nat.le_of_ble_eq_true rfl) (Nat.le_of_ble_eq_true rfl) (Nat.le_of_ble_eq_true rfl) d12_meets_97 ?_
        refine lv_istore (lv' := [(4, .int (if (o53.2 76 ((o53.2 78 (x1).toNatClampNeg)).toNatClampNeg) < (o53.2 76 ((o53.2 78 ((o34.1 / (4 : Int32))).toNatClampNeg)).toNatClampNeg) then (o53.2 76 ((o53.2 78 ((o34.1 / (4 : Int32))).toNatClampNeg)).toNatClampNeg) else (o53.2 76 ((o53.2 78 (x1).toNatClampNeg)).toNatClampNeg))), (3, .int (o53.2 69 (((85 : Int32) + (o53.2 78 (x1).toNatClampNeg))).toNatClampNeg)), (2, .int (o34.1 / (4 : Int32))), (0, .ref (ad 68)), (1, .int x1)]) hx hb d12_meets_100 hl (by decide) rfl (fun ls hl => ?_)
        refine lv_iconst (v := (0 : Int32)) hx hb d12_meets_102 (by decide) ?_
        refine lv_istore (lv' := [(5, .int (0 : Int32)), (4, .int (if (o53.2 76 ((o53.2 78 (x1).toNatClampNeg)).toNatClampNeg) < (o53.2 76 ((o53.2 78 ((o34.1 / (4 : Int32))).toNatClampNeg)).toNatClampNeg) then (o53.2 76 ((o53.2 78 ((o34.1 / (4 : Int32))).toNatClampNeg)).toNatClampNeg) else (o53.2 76 ((o53.2 78 (x1).toNatClampNeg)).toNatClampNeg))), (3, .int (o53.2 69 (((85 : Int32) + (o53.2 78 (x1).toNatClampNeg))).toNatClampNeg)), (2, .int (o34.1 / (4 : Int32))), (0, .ref (ad 68)), (1, .int x1)]) hx hb d12_meets_103 hl (by decide) rfl (fun ls hl => ?_)
        refine lv_iconst (v := (-1 : Int32)) hx hb d12_meets_105 (by decide) ?_
        refine lv_istore (lv' := [(6, .int (-1 : Int32)), (5, .int (0 : Int32)), (4, .int (if (o53.2 76 ((o53.2 78 (x1).toNatClampNeg)).toNatClampNeg) < (o53.2 76 ((o53.2 78 ((o34.1 / (4 : Int32))).toNatClampNeg)).toNatClampNeg) then (o53.2 76 ((o53.2 78 ((o34.1 / (4 : Int32))).toNatClampNeg)).toNatClampNeg) else (o53.2 76 ((o53.2 78 (x1).toNatClampNeg)).toNatClampNeg))), (3, .int (o53.2 69 (((85 : Int32) + (o53.2 78 (x1).toNatClampNeg))).toNatClampNeg)), (2, .int (o34.1 / (4 : Int32))), (0, .ref (ad 68)), (1, .int x1)]) hx hb d12_meets_106 hl (by decide) rfl (fun ls hl => ?_)
        refine l12_meets_108 C F x1 (o34.1 / (4 : Int32)) (o53.2 69 (((85 : Int32) + (o53.2 78 (x1).toNatClampNeg))).toNatClampNeg)  r _ (fun y108_4 y108_5 y108_6 h_108 H locs ls hH hl e => ?_) F (if (o53.2 76 ((o53.2 78 (x1).toNatClampNeg)).toNatClampNeg) < (o53.2 76 ((o53.2 78 ((o34.1 / (4 : Int32))).toNatClampNeg)).toNatClampNeg) then (o53.2 76 ((o53.2 78 ((o34.1 / (4 : Int32))).toNatClampNeg)).toNatClampNeg) else (o53.2 76 ((o53.2 78 (x1).toNatClampNeg)).toNatClampNeg)) (0 : Int32) (-1 : Int32) o53.2 _ _ _ hH (lv_sub hl [5, 6, 4, 3, 2, 1, 0] rfl) (ce_as e)
        try dsimp only at e
        refine lv_aload_n hx hb d12_meets_196 rfl (lv_at hl 0 rfl) ?_
        refine gf_12_47 C hH d12_meets_197 ?_
        refine lv_iload hx hb d12_meets_200 (lv_at hl 5 rfl) ?_
        refine lv_iload hx hb d12_meets_202 (lv_at hl 3 rfl) ?_
        obtain ⟨hi204, e⟩ := ce_gd e
        refine ce_iast C hH lc_80.1 lc_80.2 (ce_in_vp hi204) d12_meets_204 (fun H locs hH => ?_)
        obtain ⟨h_204, eh_204, e⟩ := ce_nmE e
        rw [← eh_204] at hH
        refine lv_aload_n hx hb d12_meets_205 rfl (lv_at hl 0 rfl) ?_
        refine gf_12_50 C hH d12_meets_206 ?_
        refine lv_iload_n hx hb d12_meets_209 rfl (lv_at hl 1 rfl) ?_
        refine lv_iload hx hb d12_meets_210 (lv_at hl 4 rfl) ?_
        obtain ⟨hi212, e⟩ := ce_gd e
        refine ce_iast C hH lc_81.1 lc_81.2 (ce_in_vp hi212) d12_meets_212 (fun H locs hH => ?_)
        obtain ⟨h_212, eh_212, e⟩ := ce_nmE e
        rw [← eh_212] at hH
        refine lv_aload_n hx hb d12_meets_213 rfl (lv_at hl 0 rfl) ?_
        refine gf_12_50 C hH d12_meets_214 ?_
        refine lv_iload_n hx hb d12_meets_217 rfl (lv_at hl 2 rfl) ?_
        refine lv_iload hx hb d12_meets_218 (lv_at hl 4 rfl) ?_
        obtain ⟨hi220, e⟩ := ce_gd e
        refine ce_iast C hH lc_81.1 lc_81.2 (ce_in_vp hi220) d12_meets_220 (fun H locs hH => ?_)
        obtain ⟨h_220, eh_220, e⟩ := ce_nmE e
        rw [← eh_220] at hH
        exact ce_vret C (ce_sok aK aV B0) hH (Option.some.inj e) d12_meets_221
      · have e := ce_if0 e hc56
        exact ce_vret C (ce_sok aK aV B0) hH (Option.some.inj e) d12_meets_59
    · have e := ce_if0 e hc23
      exact ce_vret C (ce_sok aK aV B0) hH (Option.some.inj e) d12_meets_26
end C14
