-- C17: functions and contracts, written by wip/whole/gen (mgen.py, walk.py, walk2.py) out of the bytecode
section C17
variable {p : Program} {l : Launch} {e0 : Env} {R : Room} {s : State} {m : MethodId} {args : Array Value} {below : List Frame} {meth : Method} {c : Code} {H : Heap} {locs : List Loc} {cells slots : Nat} {Q : State → Prop}
variable {cc : ByteArray} {pc nL : Nat} {ret : Option FieldType} {ls : Array Slot} {rest : List Value} {D : va_G} {ad : Nat → Nat} {cA : Nat → ClassId} {B0 : Nat} {X : va_W} {h : Hp} {aK aV : Nat → Nat}
abbrev b12_centre : ByteArray := prog_14_method_73_code
def y12_centre : MethodName := ⟨cn_12, "centre", "(I)I"⟩
theorem d12_centre_0 : decode b12_centre 0 = .ok (.aload_n 0, 1) := by decide +kernel
theorem d12_centre_1 : decode b12_centre 1 = .ok (.iload_n 1, 1) := by decide +kernel
theorem d12_centre_2 : decode b12_centre 2 = .ok (.invokevirtual 310, 3) := by decide +kernel
theorem d12_centre_5 : decode b12_centre 5 = .ok (.istore_n 2, 1) := by decide +kernel
theorem d12_centre_6 : decode b12_centre 6 = .ok (.iload_n 2, 1) := by decide +kernel
theorem d12_centre_7 : decode b12_centre 7 = .ok (.ifCond .ge 5, 3) := by decide +kernel
theorem d12_centre_10 : decode b12_centre 10 = .ok (.iload_n 2, 1) := by decide +kernel
theorem d12_centre_11 : decode b12_centre 11 = .ok (.ireturn, 1) := by decide +kernel
theorem d12_centre_12 : decode b12_centre 12 = .ok (.iconst (-1), 1) := by decide +kernel
theorem d12_centre_13 : decode b12_centre 13 = .ok (.istore_n 3, 1) := by decide +kernel
theorem d12_centre_14 : decode b12_centre 14 = .ok (.iconst 0, 1) := by decide +kernel
theorem d12_centre_15 : decode b12_centre 15 = .ok (.istore 4, 2) := by decide +kernel
theorem d12_centre_17 : decode b12_centre 17 = .ok (.iload 4, 2) := by decide +kernel
theorem d12_centre_19 : decode b12_centre 19 = .ok (.aload_n 0, 1) := by decide +kernel
theorem d12_centre_20 : decode b12_centre 20 = .ok (.getfield 7, 3) := by decide +kernel
theorem d12_centre_23 : decode b12_centre 23 = .ok (.iconst 2, 1) := by decide +kernel
theorem d12_centre_24 : decode b12_centre 24 = .ok (.iaload, 1) := by decide +kernel
theorem d12_centre_25 : decode b12_centre 25 = .ok (.if_icmp .ge 47, 3) := by decide +kernel
theorem d12_centre_28 : decode b12_centre 28 = .ok (.aload_n 0, 1) := by decide +kernel
theorem d12_centre_29 : decode b12_centre 29 = .ok (.getfield 32, 3) := by decide +kernel
theorem d12_centre_32 : decode b12_centre 32 = .ok (.iload 4, 2) := by decide +kernel
theorem d12_centre_34 : decode b12_centre 34 = .ok (.iaload, 1) := by decide +kernel
theorem d12_centre_35 : decode b12_centre 35 = .ok (.aload_n 0, 1) := by decide +kernel
theorem d12_centre_36 : decode b12_centre 36 = .ok (.getfield 32, 3) := by decide +kernel
theorem d12_centre_39 : decode b12_centre 39 = .ok (.iload_n 1, 1) := by decide +kernel
theorem d12_centre_40 : decode b12_centre 40 = .ok (.iaload, 1) := by decide +kernel
theorem d12_centre_41 : decode b12_centre 41 = .ok (.if_icmp .ne 25, 3) := by decide +kernel
theorem d12_centre_44 : decode b12_centre 44 = .ok (.iload_n 3, 1) := by decide +kernel
theorem d12_centre_45 : decode b12_centre 45 = .ok (.iconst (-1), 1) := by decide +kernel
theorem d12_centre_46 : decode b12_centre 46 = .ok (.if_icmp .eq 17, 3) := by decide +kernel
theorem d12_centre_49 : decode b12_centre 49 = .ok (.aload_n 0, 1) := by decide +kernel
theorem d12_centre_50 : decode b12_centre 50 = .ok (.iload 4, 2) := by decide +kernel
theorem d12_centre_52 : decode b12_centre 52 = .ok (.invokevirtual 304, 3) := by decide +kernel
theorem d12_centre_55 : decode b12_centre 55 = .ok (.aload_n 0, 1) := by decide +kernel
theorem d12_centre_56 : decode b12_centre 56 = .ok (.iload_n 3, 1) := by decide +kernel
theorem d12_centre_57 : decode b12_centre 57 = .ok (.invokevirtual 304, 3) := by decide +kernel
theorem d12_centre_60 : decode b12_centre 60 = .ok (.if_icmp .ge 6, 3) := by decide +kernel
theorem d12_centre_63 : decode b12_centre 63 = .ok (.iload 4, 2) := by decide +kernel
theorem d12_centre_65 : decode b12_centre 65 = .ok (.istore_n 3, 1) := by decide +kernel
theorem d12_centre_66 : decode b12_centre 66 = .ok (.iinc 4 1, 3) := by decide +kernel
theorem d12_centre_69 : decode b12_centre 69 = .ok (.goto (-52), 3) := by decide +kernel
theorem d12_centre_72 : decode b12_centre 72 = .ok (.iload_n 3, 1) := by decide +kernel
theorem d12_centre_73 : decode b12_centre 73 = .ok (.ireturn, 1) := by decide +kernel
def f12_centre_b17 (F : Nat) (x1 : Int32) (x3 : Int32) (x4 : Int32) (h : Hp) : Option ((Int32 × Int32 × Hp) ⊕ (Int32 × Hp)) :=
  if (h 69 ((2 : Int32)).toNatClampNeg) ≤ x4 then
    some (.inr (x3, h))
  else
    if ce_in x4 10 = true then
      if ce_in x1 10 = true then
        if (h 75 (x4).toNatClampNeg) = (h 75 (x1).toNatClampNeg) then
          if x3 = (-1 : Int32) then
            some (.inl (x4, x4 + (1 : Int32), h))
          else
            Option.bind (f12_farthest F x4 h) (fun o52 =>
              Option.bind (f12_farthest F x3 o52.2) (fun o57 =>
                if o57.1 ≤ o52.1 then
                  some (.inl (x3, x4 + (1 : Int32), o57.2))
                else
                  some (.inl (x4, x4 + (1 : Int32), o57.2))))
        else
          some (.inl (x3, x4 + (1 : Int32), h))
      else none
    else none
set_option maxRecDepth 20000 in
theorem l12_centre_17 (C : ce_Cx p s m args c meth b12_centre 5 (some .int) cn_12 D ad cA B0 (ce_St aK aV B0)) (F : Nat) (x1 : Int32)  (r : Int32 × Hp) (g : (Int32 × Hp) → Option (Int32 × Hp)) (hx : ∀ (x3 : Int32) (h : Hp) (H : Heap) (locs : List Loc) (ls : Array Slot), ce_H D ad cA B0 [] s h H locs → lv_has ls 5 [(3, .int x3)] → g (x3, h) = some r → W p l e0 { frames := 15, cells := 0, slots := 0, locals := 391 } s m args below meth c H locs 0 0 (MQ below (ce_Q D ad cA B0 (ce_St aK aV B0) (some (.int r.1)) r.2) args s 0 0 (fun q => B0 ≤ q)) (F0 m 72 ls [])) : ∀ (n : Nat) (x3 : Int32) (x4 : Int32) (h : Hp) (H : Heap) (locs : List Loc) (ls : Array Slot), ce_H D ad cA B0 [] s h H locs → lv_has ls 5 [(0, .ref (ad 68)), (1, .int x1), (3, .int x3), (4, .int x4)] → Option.bind (ce_it (fun (st : Int32 × Int32 × Hp) => f12_centre_b17 F x1 st.1 st.2.1 st.2.2) n (x3, x4, h)) g = some r → W p l e0 { frames := 15, cells := 0, slots := 0, locals := 391 } s m args below meth c H locs 0 0 (MQ below (ce_Q D ad cA B0 (ce_St aK aV B0) (some (.int r.1)) r.2) args s 0 0 (fun q => B0 ≤ q)) (F0 m 17 ls []) := by
  intro n
  induction n with
  | zero =>
    intro x3 x4 h H locs ls hH hl e
    exact absurd e (fun z => by cases z)
  | succ n ih =>
    intro x3 x4 h H locs ls hH hl e
    have hx9 := C.1
    have hb := C.2.1
    have e : Option.bind (f12_centre_b17 F x1 x3 x4 h) _ = some r := ce_it_bd e
    unfold f12_centre_b17 at e
    refine lv_iload hx9 hb d12_centre_17 (lv_at hl 3 rfl) ?_
    refine lv_aload_n hx9 hb d12_centre_19 rfl (lv_at hl 0 rfl) ?_
    refine gf_12_7 C hH d12_centre_20 ?_
    refine lv_iconst (v := (2 : Int32)) hx9 hb d12_centre_23 (by decide) ?_
    refine ce_iald C hH lc_69.1 lc_69.2 (ce_in_vp (by decide)) d12_centre_24 ?_
    refine lv_icmp_ge (tgt := 72) hx9 hb d12_centre_25 (by decide) (fun hc25 => ?_) (fun hc25 => ?_)
    · have e := ce_if1 e hc25
      exact hx x3 h _ _ _ hH (lv_sub hl [2] rfl) e
    · have e := ce_if0 e hc25
      refine lv_aload_n hx9 hb d12_centre_28 rfl (lv_at hl 0 rfl) ?_
      refine gf_12_32 C hH d12_centre_29 ?_
      refine lv_iload hx9 hb d12_centre_32 (lv_at hl 3 rfl) ?_
      obtain ⟨hi34, e⟩ := ce_gd e
      refine ce_iald C hH lc_75.1 lc_75.2 (ce_in_vp hi34) d12_centre_34 ?_
      refine lv_aload_n hx9 hb d12_centre_35 rfl (lv_at hl 0 rfl) ?_
      refine gf_12_32 C hH d12_centre_36 ?_
      refine lv_iload_n hx9 hb d12_centre_39 rfl (lv_at hl 1 rfl) ?_
      obtain ⟨hi40, e⟩ := ce_gd e
      refine ce_iald C hH lc_75.1 lc_75.2 (ce_in_vp hi40) d12_centre_40 ?_
      refine lv_icmp_ne (tgt := 66) hx9 hb d12_centre_41 (by decide) (fun hc41 => ?_) (fun hc41 => ?_)
      · have e := ce_if0 e hc41
        refine lv_iinc (v := x4 + (1 : Int32)) (lv' := [(4, .int (x4 + (1 : Int32))), (0, .ref (ad 68)), (1, .int x1), (3, .int x3)]) hx9 hb d12_centre_66 hl (k := 3) rfl rfl (by decide) rfl (fun ls hl => ?_)
        refine lv_goto (tgt := 17) hx9 hb d12_centre_69 (by decide) ?_
        exact ih x3 (x4 + (1 : Int32)) h _ _ _ hH (lv_sub hl [1, 2, 3, 0] rfl) e
      · have e := ce_if1 e hc41
        refine lv_iload_n hx9 hb d12_centre_44 rfl (lv_at hl 2 rfl) ?_
        refine lv_iconst (v := (-1 : Int32)) hx9 hb d12_centre_45 (by decide) ?_
        refine lv_icmp_eq (tgt := 63) hx9 hb d12_centre_46 (by decide) (fun hc46 => ?_) (fun hc46 => ?_)
        · have e := ce_if1 e hc46
          refine lv_iload hx9 hb d12_centre_63 (lv_at hl 3 rfl) ?_
          refine lv_istore_n (lv' := [(3, .int x4), (0, .ref (ad 68)), (1, .int x1), (4, .int x4)]) hx9 hb d12_centre_65 rfl hl (by decide) rfl (fun ls hl => ?_)
          refine lv_iinc (v := x4 + (1 : Int32)) (lv' := [(4, .int (x4 + (1 : Int32))), (3, .int x4), (0, .ref (ad 68)), (1, .int x1)]) hx9 hb d12_centre_66 hl (k := 3) rfl rfl (by decide) rfl (fun ls hl => ?_)
          refine lv_goto (tgt := 17) hx9 hb d12_centre_69 (by decide) ?_
          exact ih x4 (x4 + (1 : Int32)) h _ _ _ hH (lv_sub hl [2, 3, 1, 0] rfl) e
        · have e := ce_if0 e hc46
          refine lv_aload_n hx9 hb d12_centre_49 rfl (lv_at hl 0 rfl) ?_
          refine lv_iload hx9 hb d12_centre_50 (lv_at hl 3 rfl) ?_
          obtain ⟨o52, eo52, e⟩ := ce_bd e
          refine ce_callV (As := [.int x4]) (rest := []) C (ce_sok aK aV B0) hH (c12_farthest l D ad cA aK aV B0 C.2.2.2.2.2.2.1 F x4  h o52 eo52) lo_68.1 lo_68.2.choose_spec rfl rfl mc12_farthest ml_12_304 mi12_farthest ms12_farthest mI_12 (n := 1) (by decide) rfl ⟨Nat.le_of_ble_eq_true rfl, Nat.le_of_ble_eq_true rfl⟩ ⟨Nat.le_of_ble_eq_true rfl, Nat.le_of_ble_eq_true rfl⟩ hl.1 rfl (Nat.le_of_ble_eq_true rfl) d12_centre_52 (fun H locs hH => ?_)
          refine W.eq (g2 := F0 m 55 ls [.int o52.1]) rfl ?_
          refine lv_aload_n hx9 hb d12_centre_55 rfl (lv_at hl 0 rfl) ?_
          refine lv_iload_n hx9 hb d12_centre_56 rfl (lv_at hl 2 rfl) ?_
          obtain ⟨o57, eo57, e⟩ := ce_bd e
          refine ce_callV (As := [.int x3]) (rest := [.int o52.1]) C (ce_sok aK aV B0) hH (c12_farthest l D ad cA aK aV B0 C.2.2.2.2.2.2.1 F x3  o52.2 o57 eo57) lo_68.1 lo_68.2.choose_spec rfl rfl mc12_farthest ml_12_304 mi12_farthest ms12_farthest mI_12 (n := 1) (by decide) rfl ⟨Nat.le_of_ble_eq_true rfl, Nat.le_of_ble_eq_true rfl⟩ ⟨Nat.le_of_ble_eq_true rfl, Nat.le_of_ble_eq_true rfl⟩ hl.1 rfl (Nat.le_of_ble_eq_true rfl) d12_centre_57 (fun H locs hH => ?_)
          refine W.eq (g2 := F0 m 60 ls [.int o57.1, .int o52.1]) rfl ?_
          refine lv_icmp_ge (tgt := 66) hx9 hb d12_centre_60 (by decide) (fun hc60 => ?_) (fun hc60 => ?_)
          · have e := ce_if1 e hc60
            refine lv_iinc (v := x4 + (1 : Int32)) (lv' := [(4, .int (x4 + (1 : Int32))), (0, .ref (ad 68)), (1, .int x1), (3, .int x3)]) hx9 hb d12_centre_66 hl (k := 3) rfl rfl (by decide) rfl (fun ls hl => ?_)
            refine lv_goto (tgt := 17) hx9 hb d12_centre_69 (by decide) ?_
            exact ih x3 (x4 + (1 : Int32)) o57.2 _ _ _ hH (lv_sub hl [1, 2, 3, 0] rfl) e
          · have e := ce_if0 e hc60
            refine lv_iload hx9 hb d12_centre_63 (lv_at hl 3 rfl) ?_
            refine lv_istore_n (lv' := [(3, .int x4), (0, .ref (ad 68)), (1, .int x1), (4, .int x4)]) hx9 hb d12_centre_65 rfl hl (by decide) rfl (fun ls hl => ?_)
            refine lv_iinc (v := x4 + (1 : Int32)) (lv' := [(4, .int (x4 + (1 : Int32))), (3, .int x4), (0, .ref (ad 68)), (1, .int x1)]) hx9 hb d12_centre_66 hl (k := 3) rfl rfl (by decide) rfl (fun ls hl => ?_)
            refine lv_goto (tgt := 17) hx9 hb d12_centre_69 (by decide) ?_
            exact ih x4 (x4 + (1 : Int32)) o57.2 _ _ _ hH (lv_sub hl [2, 3, 1, 0] rfl) e
def f12_centre (F : Nat) (x1 : Int32) (h : Hp) : Option (Int32 × Hp) :=
  Option.bind (f12_whyNoWays F x1 h) (fun o2 =>
    if 0 ≤ o2.1 then
      Option.bind (ce_it (fun (st : Int32 × Int32 × Hp) => f12_centre_b17 F x1 st.1 st.2.1 st.2.2) F ((-1 : Int32), (0 : Int32), o2.2)) (fun o17 =>
        some (o17.1, o17.2))
    else
      some (o2.1, o2.2))
set_option maxRecDepth 20000 in
theorem c12_centre (l : Launch) (D : va_G) (ad : Nat → Nat) (cA : Nat → ClassId) (aK aV : Nat → Nat) (B0 : Nat) (hA : ce_Ad ad B0) (F : Nat) (x1 : Int32)  (h : Hp) (r : Int32 × Hp) (e : f12_centre F x1 h = some r) : ce_Ct l D ad cA B0 (ce_St aK aV B0) y12_centre b12_centre 5 (some .int) 15 391 0 0 [.ref (ad 68), .int x1] h (some (.int r.1)) r.2 := by
  refine ce_enter hA (by decide) rfl (Nat.le_of_ble_eq_true rfl) (fun p e0 s m below meth c ls C hH hl => ?_)
  have hl : lv_has ls 5 [(0, .ref (ad 68)), (1, .int x1)] := hl
  have hx := C.1
  have hb := C.2.1
  have e : Option.bind _ some = some r := (congrArg (fun z => Option.bind z some) e).trans rfl
  unfold f12_centre at e
  refine lv_aload_n hx hb d12_centre_0 rfl (lv_at hl 0 rfl) ?_
  refine lv_iload_n hx hb d12_centre_1 rfl (lv_at hl 1 rfl) ?_
  obtain ⟨o2, eo2, e⟩ := ce_bd e
  refine ce_callV (As := [.int x1]) (rest := []) C (ce_sok aK aV B0) hH (c12_whyNoWays l D ad cA aK aV B0 C.2.2.2.2.2.2.1 F x1  h o2 eo2) lo_68.1 lo_68.2.choose_spec rfl rfl mc12_whyNoWays ml_12_310 mi12_whyNoWays ms12_whyNoWays mI_12 (n := 1) (by decide) rfl ⟨Nat.le_of_ble_eq_true rfl, Nat.le_of_ble_eq_true rfl⟩ ⟨Nat.le_of_ble_eq_true rfl, Nat.le_of_ble_eq_true rfl⟩ hl.1 rfl (Nat.le_of_ble_eq_true rfl) d12_centre_2 (fun H locs hH => ?_)
  refine W.eq (g2 := F0 m 5 ls [.int o2.1]) rfl ?_
  refine lv_istore_n (lv' := [(2, .int o2.1), (0, .ref (ad 68)), (1, .int x1)]) hx hb d12_centre_5 rfl hl (by decide) rfl (fun ls hl => ?_)
  refine lv_iload_n hx hb d12_centre_6 rfl (lv_at hl 0 rfl) ?_
  refine lv_if_ge (tgt := 12) hx hb d12_centre_7 (by decide) (fun hc7 => ?_) (fun hc7 => ?_)
  · have e := ce_if1 e hc7
    refine lv_iconst (v := (-1 : Int32)) hx hb d12_centre_12 (by decide) ?_
    refine lv_istore_n (lv' := [(3, .int (-1 : Int32)), (2, .int o2.1), (0, .ref (ad 68)), (1, .int x1)]) hx hb d12_centre_13 rfl hl (by decide) rfl (fun ls hl => ?_)
    refine lv_iconst (v := (0 : Int32)) hx hb d12_centre_14 (by decide) ?_
    refine lv_istore (lv' := [(4, .int (0 : Int32)), (3, .int (-1 : Int32)), (2, .int o2.1), (0, .ref (ad 68)), (1, .int x1)]) hx hb d12_centre_15 hl (by decide) rfl (fun ls hl => ?_)
    refine l12_centre_17 C F x1  r _ (fun y17_3 h_17 H locs ls hH hl e => ?_) F (-1 : Int32) (0 : Int32) o2.2 _ _ _ hH (lv_sub hl [3, 4, 1, 0] rfl) (ce_as e)
    try dsimp only at e
    refine lv_iload_n hx hb d12_centre_72 rfl (lv_at hl 0 rfl) ?_
    exact ce_iretE C (ce_sok aK aV B0) hH e d12_centre_73
  · have e := ce_if0 e hc7
    refine lv_iload_n hx hb d12_centre_10 rfl (lv_at hl 0 rfl) ?_
    exact ce_iretE C (ce_sok aK aV B0) hH e d12_centre_11
abbrev b12_letterOf : ByteArray := prog_14_method_74_code
def y12_letterOf : MethodName := ⟨cn_12, "letterOf", "(II)I"⟩
theorem d12_letterOf_0 : decode b12_letterOf 0 = .ok (.iconst 4, 1) := by decide +kernel
theorem d12_letterOf_1 : decode b12_letterOf 1 = .ok (.iload_n 1, 1) := by decide +kernel
theorem d12_letterOf_2 : decode b12_letterOf 2 = .ok (.imul, 1) := by decide +kernel
theorem d12_letterOf_3 : decode b12_letterOf 3 = .ok (.iload_n 2, 1) := by decide +kernel
theorem d12_letterOf_4 : decode b12_letterOf 4 = .ok (.iadd, 1) := by decide +kernel
theorem d12_letterOf_5 : decode b12_letterOf 5 = .ok (.istore_n 3, 1) := by decide +kernel
theorem d12_letterOf_6 : decode b12_letterOf 6 = .ok (.aload_n 0, 1) := by decide +kernel
theorem d12_letterOf_7 : decode b12_letterOf 7 = .ok (.iload_n 3, 1) := by decide +kernel
theorem d12_letterOf_8 : decode b12_letterOf 8 = .ok (.invokevirtual 224, 3) := by decide +kernel
theorem d12_letterOf_11 : decode b12_letterOf 11 = .ok (.ifCond .ge 7, 3) := by decide +kernel
theorem d12_letterOf_14 : decode b12_letterOf 14 = .ok (.iconst 0, 1) := by decide +kernel
theorem d12_letterOf_15 : decode b12_letterOf 15 = .ok (.goto 18, 3) := by decide +kernel
theorem d12_letterOf_18 : decode b12_letterOf 18 = .ok (.aload_n 0, 1) := by decide +kernel
theorem d12_letterOf_19 : decode b12_letterOf 19 = .ok (.getfield 53, 3) := by decide +kernel
theorem d12_letterOf_22 : decode b12_letterOf 22 = .ok (.iload_n 1, 1) := by decide +kernel
theorem d12_letterOf_23 : decode b12_letterOf 23 = .ok (.iaload, 1) := by decide +kernel
theorem d12_letterOf_24 : decode b12_letterOf 24 = .ok (.iload_n 3, 1) := by decide +kernel
theorem d12_letterOf_25 : decode b12_letterOf 25 = .ok (.if_icmp .ne 7, 3) := by decide +kernel
theorem d12_letterOf_28 : decode b12_letterOf 28 = .ok (.iconst 1, 1) := by decide +kernel
theorem d12_letterOf_29 : decode b12_letterOf 29 = .ok (.goto 4, 3) := by decide +kernel
theorem d12_letterOf_32 : decode b12_letterOf 32 = .ok (.iconst 2, 1) := by decide +kernel
theorem d12_letterOf_33 : decode b12_letterOf 33 = .ok (.ireturn, 1) := by decide +kernel
def f12_letterOf (F : Nat) (x1 : Int32) (x2 : Int32) (h : Hp) : Option (Int32 × Hp) :=
  Option.bind (f12_otherOf F (((4 : Int32) * x1) + x2) h) (fun o8 =>
    if 0 ≤ o8.1 then
      if ce_in x1 10 = true then
        if (o8.2 82 (x1).toNatClampNeg) = (((4 : Int32) * x1) + x2) then
          some ((1 : Int32), o8.2)
        else
          some ((2 : Int32), o8.2)
      else none
    else
      some ((0 : Int32), o8.2))
set_option maxRecDepth 20000 in
theorem c12_letterOf (l : Launch) (D : va_G) (ad : Nat → Nat) (cA : Nat → ClassId) (aK aV : Nat → Nat) (B0 : Nat) (hA : ce_Ad ad B0) (F : Nat) (x1 : Int32) (x2 : Int32)  (h : Hp) (r : Int32 × Hp) (e : f12_letterOf F x1 x2 h = some r) : ce_Ct l D ad cA B0 (ce_St aK aV B0) y12_letterOf b12_letterOf 4 (some .int) 1 21 0 0 [.ref (ad 68), .int x1, .int x2] h (some (.int r.1)) r.2 := by
  refine ce_enter hA (by decide) rfl (Nat.le_of_ble_eq_true rfl) (fun p e0 s m below meth c ls C hH hl => ?_)
  have hl : lv_has ls 4 [(0, .ref (ad 68)), (1, .int x1), (2, .int x2)] := hl
  have hx := C.1
  have hb := C.2.1
  have e : Option.bind _ some = some r := (congrArg (fun z => Option.bind z some) e).trans rfl
  unfold f12_letterOf at e
  refine lv_iconst (v := (4 : Int32)) hx hb d12_letterOf_0 (by decide) ?_
  refine lv_iload_n hx hb d12_letterOf_1 rfl (lv_at hl 1 rfl) ?_
  refine lv_imul hx hb d12_letterOf_2 ?_
  refine lv_iload_n hx hb d12_letterOf_3 rfl (lv_at hl 2 rfl) ?_
  refine lv_iadd hx hb d12_letterOf_4 ?_
  refine lv_istore_n (lv' := [(3, .int (((4 : Int32) * x1) + x2)), (0, .ref (ad 68)), (1, .int x1), (2, .int x2)]) hx hb d12_letterOf_5 rfl hl (by decide) rfl (fun ls hl => ?_)
  refine lv_aload_n hx hb d12_letterOf_6 rfl (lv_at hl 1 rfl) ?_
  refine lv_iload_n hx hb d12_letterOf_7 rfl (lv_at hl 0 rfl) ?_
  obtain ⟨o8, eo8, e⟩ := ce_bd e
  refine ce_callV (As := [.int (((4 : Int32) * x1) + x2)]) (rest := []) C (ce_sok aK aV B0) hH (c12_otherOf l D ad cA aK aV B0 C.2.2.2.2.2.2.1 F (((4 : Int32) * x1) + x2)  h o8 eo8) lo_68.1 lo_68.2.choose_spec rfl rfl mc12_otherOf ml_12_224 mi12_otherOf ms12_otherOf mI_12 (n := 1) (by decide) rfl ⟨Nat.le_of_ble_eq_true rfl, Nat.le_of_ble_eq_true rfl⟩ ⟨Nat.le_of_ble_eq_true rfl, Nat.le_of_ble_eq_true rfl⟩ hl.1 rfl (Nat.le_of_ble_eq_true rfl) d12_letterOf_8 (fun H locs hH => ?_)
  refine W.eq (g2 := F0 m 11 ls [.int o8.1]) rfl ?_
  refine lv_if_ge (tgt := 18) hx hb d12_letterOf_11 (by decide) (fun hc11 => ?_) (fun hc11 => ?_)
  · have e := ce_if1 e hc11
    refine lv_aload_n hx hb d12_letterOf_18 rfl (lv_at hl 1 rfl) ?_
    refine gf_12_53 C hH d12_letterOf_19 ?_
    refine lv_iload_n hx hb d12_letterOf_22 rfl (lv_at hl 2 rfl) ?_
    obtain ⟨hi23, e⟩ := ce_gd e
    refine ce_iald C hH lc_82.1 lc_82.2 (ce_in_vp hi23) d12_letterOf_23 ?_
    refine lv_iload_n hx hb d12_letterOf_24 rfl (lv_at hl 0 rfl) ?_
    refine lv_icmp_ne (tgt := 32) hx hb d12_letterOf_25 (by decide) (fun hc25 => ?_) (fun hc25 => ?_)
    · have e := ce_if0 e hc25
      refine lv_iconst (v := (2 : Int32)) hx hb d12_letterOf_32 (by decide) ?_
      exact ce_iretE C (ce_sok aK aV B0) hH e d12_letterOf_33
    · have e := ce_if1 e hc25
      refine lv_iconst (v := (1 : Int32)) hx hb d12_letterOf_28 (by decide) ?_
      refine lv_goto (tgt := 33) hx hb d12_letterOf_29 (by decide) ?_
      exact ce_iretE C (ce_sok aK aV B0) hH e d12_letterOf_33
  · have e := ce_if0 e hc11
    refine lv_iconst (v := (0 : Int32)) hx hb d12_letterOf_14 (by decide) ?_
    refine lv_goto (tgt := 33) hx hb d12_letterOf_15 (by decide) ?_
    exact ce_iretE C (ce_sok aK aV B0) hH e d12_letterOf_33
abbrev b12_packet : ByteArray := prog_14_method_75_code
def y12_packet : MethodName := ⟨cn_12, "packet", "(II)I"⟩
theorem d12_packet_0 : decode b12_packet 0 = .ok (.aload_n 0, 1) := by decide +kernel
theorem d12_packet_1 : decode b12_packet 1 = .ok (.iload_n 1, 1) := by decide +kernel
theorem d12_packet_2 : decode b12_packet 2 = .ok (.invokevirtual 220, 3) := by decide +kernel
theorem d12_packet_5 : decode b12_packet 5 = .ok (.ifCond .eq 7, 3) := by decide +kernel
theorem d12_packet_8 : decode b12_packet 8 = .ok (.iload_n 2, 1) := by decide +kernel
theorem d12_packet_9 : decode b12_packet 9 = .ok (.ifCond .ge 6, 3) := by decide +kernel
theorem d12_packet_12 : decode b12_packet 12 = .ok (.bipush (-2), 2) := by decide +kernel
theorem d12_packet_14 : decode b12_packet 14 = .ok (.ireturn, 1) := by decide +kernel
theorem d12_packet_15 : decode b12_packet 15 = .ok (.aload_n 0, 1) := by decide +kernel
theorem d12_packet_16 : decode b12_packet 16 = .ok (.iload_n 1, 1) := by decide +kernel
theorem d12_packet_17 : decode b12_packet 17 = .ok (.invokevirtual 267, 3) := by decide +kernel
theorem d12_packet_20 : decode b12_packet 20 = .ok (.istore_n 3, 1) := by decide +kernel
theorem d12_packet_21 : decode b12_packet 21 = .ok (.iload_n 3, 1) := by decide +kernel
theorem d12_packet_22 : decode b12_packet 22 = .ok (.ifCond .lt 15, 3) := by decide +kernel
theorem d12_packet_25 : decode b12_packet 25 = .ok (.iload_n 2, 1) := by decide +kernel
theorem d12_packet_26 : decode b12_packet 26 = .ok (.aload_n 0, 1) := by decide +kernel
theorem d12_packet_27 : decode b12_packet 27 = .ok (.getfield 7, 3) := by decide +kernel
theorem d12_packet_30 : decode b12_packet 30 = .ok (.iconst 5, 1) := by decide +kernel
theorem d12_packet_31 : decode b12_packet 31 = .ok (.iload_n 1, 1) := by decide +kernel
theorem d12_packet_32 : decode b12_packet 32 = .ok (.iadd, 1) := by decide +kernel
theorem d12_packet_33 : decode b12_packet 33 = .ok (.iaload, 1) := by decide +kernel
theorem d12_packet_34 : decode b12_packet 34 = .ok (.if_icmp .lt 7, 3) := by decide +kernel
theorem d12_packet_37 : decode b12_packet 37 = .ok (.iconst (-1), 1) := by decide +kernel
theorem d12_packet_38 : decode b12_packet 38 = .ok (.goto 9, 3) := by decide +kernel
theorem d12_packet_41 : decode b12_packet 41 = .ok (.aload_n 0, 1) := by decide +kernel
theorem d12_packet_42 : decode b12_packet 42 = .ok (.iload_n 1, 1) := by decide +kernel
theorem d12_packet_43 : decode b12_packet 43 = .ok (.iload_n 2, 1) := by decide +kernel
theorem d12_packet_44 : decode b12_packet 44 = .ok (.invokevirtual 316, 3) := by decide +kernel
theorem d12_packet_47 : decode b12_packet 47 = .ok (.ireturn, 1) := by decide +kernel
theorem mc12_letterOf : Cond.code y12_letterOf b12_letterOf 4 (some .int) ∈ ce_cm := ce_cm_of (List.mem_of_getElem? (i := 1549) (by decide +kernel)) (by decide +kernel)
theorem ml_12_316 : Cond.methodLink cn_12 316 y12_letterOf ∈ ce_cm := ce_cm_of (List.mem_of_getElem? (i := 1546) (by decide +kernel)) (by decide +kernel)
theorem mi12_letterOf : Cond.instanceMethod y12_letterOf ∈ ce_cm := ce_cm_of (List.mem_of_getElem? (i := 1548) (by decide +kernel)) (by decide +kernel)
theorem ms12_letterOf : Cond.selects cn_12 y12_letterOf y12_letterOf ∈ ce_cm := ce_cm_of (List.mem_of_getElem? (i := 76) (by decide +kernel)) (by decide +kernel)
def f12_packet (F : Nat) (x1 : Int32) (x2 : Int32) (h : Hp) : Option (Int32 × Hp) :=
  Option.bind (f12_isNode F x1 h) (fun o2 =>
    if o2.1 = 0 then
      some ((-2 : Int32), o2.2)
    else
      if 0 ≤ x2 then
        Option.bind (f12_whyNot F x1 o2.2) (fun o17 =>
          if o17.1 < 0 then
            some ((-1 : Int32), o17.2)
          else
            if ce_in ((5 : Int32) + x1) 125 = true then
              if x2 < (o17.2 69 (((5 : Int32) + x1)).toNatClampNeg) then
                Option.bind (f12_letterOf F x1 x2 o17.2) (fun o44 =>
                  some (o44.1, o44.2))
              else
                some ((-1 : Int32), o17.2)
            else none)
      else
        some ((-2 : Int32), o2.2))
set_option maxRecDepth 20000 in
theorem c12_packet (l : Launch) (D : va_G) (ad : Nat → Nat) (cA : Nat → ClassId) (aK aV : Nat → Nat) (B0 : Nat) (hA : ce_Ad ad B0) (F : Nat) (x1 : Int32) (x2 : Int32)  (h : Hp) (r : Int32 × Hp) (e : f12_packet F x1 x2 h = some r) : ce_Ct l D ad cA B0 (ce_St aK aV B0) y12_packet b12_packet 4 (some .int) 5 112 0 0 [.ref (ad 68), .int x1, .int x2] h (some (.int r.1)) r.2 := by
  refine ce_enter hA (by decide) rfl (Nat.le_of_ble_eq_true rfl) (fun p e0 s m below meth c ls C hH hl => ?_)
  have hl : lv_has ls 4 [(0, .ref (ad 68)), (1, .int x1), (2, .int x2)] := hl
  have hx := C.1
  have hb := C.2.1
  have e : Option.bind _ some = some r := (congrArg (fun z => Option.bind z some) e).trans rfl
  unfold f12_packet at e
  refine lv_aload_n hx hb d12_packet_0 rfl (lv_at hl 0 rfl) ?_
  refine lv_iload_n hx hb d12_packet_1 rfl (lv_at hl 1 rfl) ?_
  obtain ⟨o2, eo2, e⟩ := ce_bd e
  refine ce_callV (As := [.int x1]) (rest := []) C (ce_sok aK aV B0) hH (c12_isNode l D ad cA aK aV B0 C.2.2.2.2.2.2.1 F x1  h o2 eo2) lo_68.1 lo_68.2.choose_spec rfl rfl mc12_isNode ml_12_220 mi12_isNode ms12_isNode mI_12 (n := 1) (by decide) rfl ⟨Nat.le_of_ble_eq_true rfl, Nat.le_of_ble_eq_true rfl⟩ ⟨Nat.le_of_ble_eq_true rfl, Nat.le_of_ble_eq_true rfl⟩ hl.1 rfl (Nat.le_of_ble_eq_true rfl) d12_packet_2 (fun H locs hH => ?_)
  refine W.eq (g2 := F0 m 5 ls [.int o2.1]) rfl ?_
  refine lv_if_eq (tgt := 12) hx hb d12_packet_5 (by decide) (fun hc5 => ?_) (fun hc5 => ?_)
  · have e := ce_if1 e hc5
    refine lv_bipush (v := (-2 : Int32)) hx hb d12_packet_12 (by decide) ?_
    exact ce_iretE C (ce_sok aK aV B0) hH e d12_packet_14
  · have e := ce_if0 e hc5
    refine lv_iload_n hx hb d12_packet_8 rfl (lv_at hl 2 rfl) ?_
    refine lv_if_ge (tgt := 15) hx hb d12_packet_9 (by decide) (fun hc9 => ?_) (fun hc9 => ?_)
    · have e := ce_if1 e hc9
      refine lv_aload_n hx hb d12_packet_15 rfl (lv_at hl 0 rfl) ?_
      refine lv_iload_n hx hb d12_packet_16 rfl (lv_at hl 1 rfl) ?_
      obtain ⟨o17, eo17, e⟩ := ce_bd e
      refine ce_callV (As := [.int x1]) (rest := []) C (ce_sok aK aV B0) hH (c12_whyNot l D ad cA aK aV B0 C.2.2.2.2.2.2.1 F x1  o2.2 o17 eo17) lo_68.1 lo_68.2.choose_spec rfl rfl mc12_whyNot ml_12_267 mi12_whyNot ms12_whyNot mI_12 (n := 1) (by decide) rfl ⟨Nat.le_of_ble_eq_true rfl, Nat.le_of_ble_eq_true rfl⟩ ⟨Nat.le_of_ble_eq_true rfl, Nat.le_of_ble_eq_true rfl⟩ hl.1 rfl (Nat.le_of_ble_eq_true rfl) d12_packet_17 (fun H locs hH => ?_)
      refine W.eq (g2 := F0 m 20 ls [.int o17.1]) rfl ?_
      refine lv_istore_n (lv' := [(3, .int o17.1), (0, .ref (ad 68)), (1, .int x1), (2, .int x2)]) hx hb d12_packet_20 rfl hl (by decide) rfl (fun ls hl => ?_)
      refine lv_iload_n hx hb d12_packet_21 rfl (lv_at hl 0 rfl) ?_
      refine lv_if_lt (tgt := 37) hx hb d12_packet_22 (by decide) (fun hc22 => ?_) (fun hc22 => ?_)
      · have e := ce_if1 e hc22
        refine lv_iconst (v := (-1 : Int32)) hx hb d12_packet_37 (by decide) ?_
        refine lv_goto (tgt := 47) hx hb d12_packet_38 (by decide) ?_
        exact ce_iretE C (ce_sok aK aV B0) hH e d12_packet_47
      · have e := ce_if0 e hc22
        refine lv_iload_n hx hb d12_packet_25 rfl (lv_at hl 3 rfl) ?_
        refine lv_aload_n hx hb d12_packet_26 rfl (lv_at hl 1 rfl) ?_
        refine gf_12_7 C hH d12_packet_27 ?_
        refine lv_iconst (v := (5 : Int32)) hx hb d12_packet_30 (by decide) ?_
        refine lv_iload_n hx hb d12_packet_31 rfl (lv_at hl 2 rfl) ?_
        refine lv_iadd hx hb d12_packet_32 ?_
        obtain ⟨hi33, e⟩ := ce_gd e
        refine ce_iald C hH lc_69.1 lc_69.2 (ce_in_vp hi33) d12_packet_33 ?_
        refine lv_icmp_lt (tgt := 41) hx hb d12_packet_34 (by decide) (fun hc34 => ?_) (fun hc34 => ?_)
        · have e := ce_if1 e hc34
          refine lv_aload_n hx hb d12_packet_41 rfl (lv_at hl 1 rfl) ?_
          refine lv_iload_n hx hb d12_packet_42 rfl (lv_at hl 2 rfl) ?_
          refine lv_iload_n hx hb d12_packet_43 rfl (lv_at hl 3 rfl) ?_
          obtain ⟨o44, eo44, e⟩ := ce_bd e
          refine ce_callV (As := [.int x1, .int x2]) (rest := []) C (ce_sok aK aV B0) hH (c12_letterOf l D ad cA aK aV B0 C.2.2.2.2.2.2.1 F x1 x2  o17.2 o44 eo44) lo_68.1 lo_68.2.choose_spec rfl rfl mc12_letterOf ml_12_316 mi12_letterOf ms12_letterOf mI_12 (n := 2) (by decide) rfl ⟨Nat.le_of_ble_eq_true rfl, Nat.le_of_ble_eq_true rfl⟩ ⟨Nat.le_of_ble_eq_true rfl, Nat.le_of_ble_eq_true rfl⟩ hl.1 rfl (Nat.le_of_ble_eq_true rfl) d12_packet_44 (fun H locs hH => ?_)
          refine W.eq (g2 := F0 m 47 ls [.int o44.1]) rfl ?_
          exact ce_iretE C (ce_sok aK aV B0) hH e d12_packet_47
        · have e := ce_if0 e hc34
          refine lv_iconst (v := (-1 : Int32)) hx hb d12_packet_37 (by decide) ?_
          refine lv_goto (tgt := 47) hx hb d12_packet_38 (by decide) ?_
          exact ce_iretE C (ce_sok aK aV B0) hH e d12_packet_47
    · have e := ce_if0 e hc9
      refine lv_bipush (v := (-2 : Int32)) hx hb d12_packet_12 (by decide) ?_
      exact ce_iretE C (ce_sok aK aV B0) hH e d12_packet_14
abbrev b12_isPacket : ByteArray := prog_14_method_76_code
def y12_isPacket : MethodName := ⟨cn_12, "isPacket", "()Z"⟩
theorem d12_isPacket_0 : decode b12_isPacket 0 = .ok (.aload_n 0, 1) := by decide +kernel
theorem d12_isPacket_1 : decode b12_isPacket 1 = .ok (.getfield 115, 3) := by decide +kernel
theorem d12_isPacket_4 : decode b12_isPacket 4 = .ok (.iconst 1, 1) := by decide +kernel
theorem d12_isPacket_5 : decode b12_isPacket 5 = .ok (.if_icmp .ne 20, 3) := by decide +kernel
theorem d12_isPacket_8 : decode b12_isPacket 8 = .ok (.aload_n 0, 1) := by decide +kernel
theorem d12_isPacket_9 : decode b12_isPacket 9 = .ok (.getfield 102, 3) := by decide +kernel
theorem d12_isPacket_12 : decode b12_isPacket 12 = .ok (.aload_n 0, 1) := by decide +kernel
theorem d12_isPacket_13 : decode b12_isPacket 13 = .ok (.getfield 109, 3) := by decide +kernel
theorem d12_isPacket_16 : decode b12_isPacket 16 = .ok (.isub, 1) := by decide +kernel
theorem d12_isPacket_17 : decode b12_isPacket 17 = .ok (.iconst 4, 1) := by decide +kernel
theorem d12_isPacket_18 : decode b12_isPacket 18 = .ok (.if_icmp .gt 7, 3) := by decide +kernel
theorem d12_isPacket_21 : decode b12_isPacket 21 = .ok (.iconst 1, 1) := by decide +kernel
theorem d12_isPacket_22 : decode b12_isPacket 22 = .ok (.goto 4, 3) := by decide +kernel
theorem d12_isPacket_25 : decode b12_isPacket 25 = .ok (.iconst 0, 1) := by decide +kernel
theorem d12_isPacket_26 : decode b12_isPacket 26 = .ok (.istore_n 1, 1) := by decide +kernel
theorem d12_isPacket_27 : decode b12_isPacket 27 = .ok (.iconst 0, 1) := by decide +kernel
theorem d12_isPacket_28 : decode b12_isPacket 28 = .ok (.istore_n 2, 1) := by decide +kernel
theorem d12_isPacket_29 : decode b12_isPacket 29 = .ok (.aload_n 0, 1) := by decide +kernel
theorem d12_isPacket_30 : decode b12_isPacket 30 = .ok (.getfield 109, 3) := by decide +kernel
theorem d12_isPacket_33 : decode b12_isPacket 33 = .ok (.istore_n 3, 1) := by decide +kernel
theorem d12_isPacket_34 : decode b12_isPacket 34 = .ok (.iload_n 3, 1) := by decide +kernel
theorem d12_isPacket_35 : decode b12_isPacket 35 = .ok (.aload_n 0, 1) := by decide +kernel
theorem d12_isPacket_36 : decode b12_isPacket 36 = .ok (.getfield 102, 3) := by decide +kernel
theorem d12_isPacket_39 : decode b12_isPacket 39 = .ok (.if_icmp .ge 71, 3) := by decide +kernel
theorem d12_isPacket_42 : decode b12_isPacket 42 = .ok (.iload_n 1, 1) := by decide +kernel
theorem d12_isPacket_43 : decode b12_isPacket 43 = .ok (.ifCond .eq 67, 3) := by decide +kernel
theorem d12_isPacket_46 : decode b12_isPacket 46 = .ok (.aload_n 0, 1) := by decide +kernel
theorem d12_isPacket_47 : decode b12_isPacket 47 = .ok (.getfield 19, 3) := by decide +kernel
theorem d12_isPacket_50 : decode b12_isPacket 50 = .ok (.iload_n 3, 1) := by decide +kernel
theorem d12_isPacket_51 : decode b12_isPacket 51 = .ok (.iaload, 1) := by decide +kernel
theorem d12_isPacket_52 : decode b12_isPacket 52 = .ok (.bipush 110, 2) := by decide +kernel
theorem d12_isPacket_54 : decode b12_isPacket 54 = .ok (.if_icmp .eq 25, 3) := by decide +kernel
theorem d12_isPacket_57 : decode b12_isPacket 57 = .ok (.aload_n 0, 1) := by decide +kernel
theorem d12_isPacket_58 : decode b12_isPacket 58 = .ok (.getfield 19, 3) := by decide +kernel
theorem d12_isPacket_61 : decode b12_isPacket 61 = .ok (.iload_n 3, 1) := by decide +kernel
theorem d12_isPacket_62 : decode b12_isPacket 62 = .ok (.iaload, 1) := by decide +kernel
theorem d12_isPacket_63 : decode b12_isPacket 63 = .ok (.bipush 112, 2) := by decide +kernel
theorem d12_isPacket_65 : decode b12_isPacket 65 = .ok (.if_icmp .eq 14, 3) := by decide +kernel
theorem d12_isPacket_68 : decode b12_isPacket 68 = .ok (.aload_n 0, 1) := by decide +kernel
theorem d12_isPacket_69 : decode b12_isPacket 69 = .ok (.getfield 19, 3) := by decide +kernel
theorem d12_isPacket_72 : decode b12_isPacket 72 = .ok (.iload_n 3, 1) := by decide +kernel
theorem d12_isPacket_73 : decode b12_isPacket 73 = .ok (.iaload, 1) := by decide +kernel
theorem d12_isPacket_74 : decode b12_isPacket 74 = .ok (.bipush 99, 2) := by decide +kernel
theorem d12_isPacket_76 : decode b12_isPacket 76 = .ok (.if_icmp .ne 7, 3) := by decide +kernel
theorem d12_isPacket_79 : decode b12_isPacket 79 = .ok (.iconst 1, 1) := by decide +kernel
theorem d12_isPacket_80 : decode b12_isPacket 80 = .ok (.goto 4, 3) := by decide +kernel
theorem d12_isPacket_83 : decode b12_isPacket 83 = .ok (.iconst 0, 1) := by decide +kernel
theorem d12_isPacket_84 : decode b12_isPacket 84 = .ok (.istore_n 1, 1) := by decide +kernel
theorem d12_isPacket_85 : decode b12_isPacket 85 = .ok (.iload_n 2, 1) := by decide +kernel
theorem d12_isPacket_86 : decode b12_isPacket 86 = .ok (.aload_n 0, 1) := by decide +kernel
theorem d12_isPacket_87 : decode b12_isPacket 87 = .ok (.getfield 19, 3) := by decide +kernel
theorem d12_isPacket_90 : decode b12_isPacket 90 = .ok (.iload_n 3, 1) := by decide +kernel
theorem d12_isPacket_91 : decode b12_isPacket 91 = .ok (.iaload, 1) := by decide +kernel
theorem d12_isPacket_92 : decode b12_isPacket 92 = .ok (.bipush 112, 2) := by decide +kernel
theorem d12_isPacket_94 : decode b12_isPacket 94 = .ok (.if_icmp .ne 7, 3) := by decide +kernel
theorem d12_isPacket_97 : decode b12_isPacket 97 = .ok (.iconst 1, 1) := by decide +kernel
theorem d12_isPacket_98 : decode b12_isPacket 98 = .ok (.goto 4, 3) := by decide +kernel
theorem d12_isPacket_101 : decode b12_isPacket 101 = .ok (.iconst 0, 1) := by decide +kernel
theorem d12_isPacket_102 : decode b12_isPacket 102 = .ok (.iadd, 1) := by decide +kernel
theorem d12_isPacket_103 : decode b12_isPacket 103 = .ok (.istore_n 2, 1) := by decide +kernel
theorem d12_isPacket_104 : decode b12_isPacket 104 = .ok (.iinc 3 1, 3) := by decide +kernel
theorem d12_isPacket_107 : decode b12_isPacket 107 = .ok (.goto (-73), 3) := by decide +kernel
theorem d12_isPacket_110 : decode b12_isPacket 110 = .ok (.iload_n 1, 1) := by decide +kernel
theorem d12_isPacket_111 : decode b12_isPacket 111 = .ok (.ifCond .eq 12, 3) := by decide +kernel
theorem d12_isPacket_114 : decode b12_isPacket 114 = .ok (.iload_n 2, 1) := by decide +kernel
theorem d12_isPacket_115 : decode b12_isPacket 115 = .ok (.iconst 2, 1) := by decide +kernel
theorem d12_isPacket_116 : decode b12_isPacket 116 = .ok (.if_icmp .ge 7, 3) := by decide +kernel
theorem d12_isPacket_119 : decode b12_isPacket 119 = .ok (.iconst 1, 1) := by decide +kernel
theorem d12_isPacket_120 : decode b12_isPacket 120 = .ok (.goto 4, 3) := by decide +kernel
theorem d12_isPacket_123 : decode b12_isPacket 123 = .ok (.iconst 0, 1) := by decide +kernel
theorem d12_isPacket_124 : decode b12_isPacket 124 = .ok (.ireturn, 1) := by decide +kernel
def f12_isPacket_b34 (F : Nat) (x1 : Int32) (x2 : Int32) (x3 : Int32) (h : Hp) : Option ((Int32 × Int32 × Int32 × Hp) ⊕ (Int32 × Int32 × Hp)) :=
  if (h 68 7) ≤ x3 then
    some (.inr (x1, x2, h))
  else
    if x1 = 0 then
      some (.inr (x1, x2, h))
    else
      if ce_in x3 700 = true then
        if (h 72 (x3).toNatClampNeg) = (110 : Int32) then
          if ce_in x3 700 = true then
            if (h 72 (x3).toNatClampNeg) = (112 : Int32) then
              some (.inl ((1 : Int32), x2 + (1 : Int32), x3 + (1 : Int32), h))
            else
              some (.inl ((1 : Int32), x2 + (0 : Int32), x3 + (1 : Int32), h))
          else none
        else
          if ce_in x3 700 = true then
            if (h 72 (x3).toNatClampNeg) = (112 : Int32) then
              if ce_in x3 700 = true then
                if (h 72 (x3).toNatClampNeg) = (112 : Int32) then
                  some (.inl ((1 : Int32), x2 + (1 : Int32), x3 + (1 : Int32), h))
                else
                  some (.inl ((1 : Int32), x2 + (0 : Int32), x3 + (1 : Int32), h))
              else none
            else
              if ce_in x3 700 = true then
                if (h 72 (x3).toNatClampNeg) = (99 : Int32) then
                  if ce_in x3 700 = true then
                    if (h 72 (x3).toNatClampNeg) = (112 : Int32) then
                      some (.inl ((1 : Int32), x2 + (1 : Int32), x3 + (1 : Int32), h))
                    else
                      some (.inl ((1 : Int32), x2 + (0 : Int32), x3 + (1 : Int32), h))
                  else none
                else
                  if ce_in x3 700 = true then
                    if (h 72 (x3).toNatClampNeg) = (112 : Int32) then
                      some (.inl ((0 : Int32), x2 + (1 : Int32), x3 + (1 : Int32), h))
                    else
                      some (.inl ((0 : Int32), x2 + (0 : Int32), x3 + (1 : Int32), h))
                  else none
              else none
          else none
      else none
set_option maxRecDepth 20000 in
theorem l12_isPacket_34 (C : ce_Cx p s m args c meth b12_isPacket 4 (some .boolean) cn_12 D ad cA B0 (ce_St aK aV B0)) (F : Nat)   (r : Int32 × Hp) (g : (Int32 × Int32 × Hp) → Option (Int32 × Hp)) (hx : ∀ (x1 : Int32) (x2 : Int32) (h : Hp) (H : Heap) (locs : List Loc) (ls : Array Slot), ce_H D ad cA B0 [] s h H locs → lv_has ls 4 [(1, .int x1), (2, .int x2)] → g (x1, x2, h) = some r → W p l e0 { frames := 0, cells := 0, slots := 0, locals := 0 } s m args below meth c H locs 0 0 (MQ below (ce_Q D ad cA B0 (ce_St aK aV B0) (some (.int r.1)) r.2) args s 0 0 (fun q => B0 ≤ q)) (F0 m 110 ls [])) : ∀ (n : Nat) (x1 : Int32) (x2 : Int32) (x3 : Int32) (h : Hp) (H : Heap) (locs : List Loc) (ls : Array Slot), ce_H D ad cA B0 [] s h H locs → lv_has ls 4 [(0, .ref (ad 68)), (1, .int x1), (2, .int x2), (3, .int x3)] → Option.bind (ce_it (fun (st : Int32 × Int32 × Int32 × Hp) => f12_isPacket_b34 F  st.1 st.2.1 st.2.2.1 st.2.2.2) n (x1, x2, x3, h)) g = some r → W p l e0 { frames := 0, cells := 0, slots := 0, locals := 0 } s m args below meth c H locs 0 0 (MQ below (ce_Q D ad cA B0 (ce_St aK aV B0) (some (.int r.1)) r.2) args s 0 0 (fun q => B0 ≤ q)) (F0 m 34 ls []) := by
  intro n
  induction n with
  | zero =>
    intro x1 x2 x3 h H locs ls hH hl e
    exact absurd e (fun z => by cases z)
  | succ n ih =>
    intro x1 x2 x3 h H locs ls hH hl e
    have hx9 := C.1
    have hb := C.2.1
    have e : Option.bind (f12_isPacket_b34 F  x1 x2 x3 h) _ = some r := ce_it_bd e
    unfold f12_isPacket_b34 at e
    refine lv_iload_n hx9 hb d12_isPacket_34 rfl (lv_at hl 3 rfl) ?_
    refine lv_aload_n hx9 hb d12_isPacket_35 rfl (lv_at hl 0 rfl) ?_
    refine gf_12_102 C hH d12_isPacket_36 ?_
    refine lv_icmp_ge (tgt := 110) hx9 hb d12_isPacket_39 (by decide) (fun hc39 => ?_) (fun hc39 => ?_)
    · have e := ce_if1 e hc39
      exact hx x1 x2 h _ _ _ hH (lv_sub hl [1, 2] rfl) e
    · have e := ce_if0 e hc39
      refine lv_iload_n hx9 hb d12_isPacket_42 rfl (lv_at hl 1 rfl) ?_
      refine lv_if_eq (tgt := 110) hx9 hb d12_isPacket_43 (by decide) (fun hc43 => ?_) (fun hc43 => ?_)
      · have e := ce_if1 e hc43
        exact hx x1 x2 h _ _ _ hH (lv_sub hl [1, 2] rfl) e
      · have e := ce_if0 e hc43
        refine lv_aload_n hx9 hb d12_isPacket_46 rfl (lv_at hl 0 rfl) ?_
        refine gf_12_19 C hH d12_isPacket_47 ?_
        refine lv_iload_n hx9 hb d12_isPacket_50 rfl (lv_at hl 3 rfl) ?_
        obtain ⟨hi51, e⟩ := ce_gd e
        refine ce_iald C hH lc_72.1 lc_72.2 (ce_in_vp hi51) d12_isPacket_51 ?_
        refine lv_bipush (v := (110 : Int32)) hx9 hb d12_isPacket_52 (by decide) ?_
        refine lv_icmp_eq (tgt := 79) hx9 hb d12_isPacket_54 (by decide) (fun hc54 => ?_) (fun hc54 => ?_)
        · have e := ce_if1 e hc54
          refine lv_iconst (v := (1 : Int32)) hx9 hb d12_isPacket_79 (by decide) ?_
          refine lv_goto (tgt := 84) hx9 hb d12_isPacket_80 (by decide) ?_
          refine lv_istore_n (lv' := [(1, .int (1 : Int32)), (0, .ref (ad 68)), (2, .int x2), (3, .int x3)]) hx9 hb d12_isPacket_84 rfl hl (by decide) rfl (fun ls hl => ?_)
          refine lv_iload_n hx9 hb d12_isPacket_85 rfl (lv_at hl 2 rfl) ?_
          refine lv_aload_n hx9 hb d12_isPacket_86 rfl (lv_at hl 1 rfl) ?_
          refine gf_12_19 C hH d12_isPacket_87 ?_
          refine lv_iload_n hx9 hb d12_isPacket_90 rfl (lv_at hl 3 rfl) ?_
          obtain ⟨hi91, e⟩ := ce_gd e
          refine ce_iald C hH lc_72.1 lc_72.2 (ce_in_vp hi91) d12_isPacket_91 ?_
          refine lv_bipush (v := (112 : Int32)) hx9 hb d12_isPacket_92 (by decide) ?_
          refine lv_icmp_ne (tgt := 101) hx9 hb d12_isPacket_94 (by decide) (fun hc94 => ?_) (fun hc94 => ?_)
          · have e := ce_if0 e hc94
            refine lv_iconst (v := (0 : Int32)) hx9 hb d12_isPacket_101 (by decide) ?_
            refine lv_iadd hx9 hb d12_isPacket_102 ?_
            refine lv_istore_n (lv' := [(2, .int (x2 + (0 : Int32))), (1, .int (1 : Int32)), (0, .ref (ad 68)), (3, .int x3)]) hx9 hb d12_isPacket_103 rfl hl (by decide) rfl (fun ls hl => ?_)
            refine lv_iinc (v := x3 + (1 : Int32)) (lv' := [(3, .int (x3 + (1 : Int32))), (2, .int (x2 + (0 : Int32))), (1, .int (1 : Int32)), (0, .ref (ad 68))]) hx9 hb d12_isPacket_104 hl (k := 3) rfl rfl (by decide) rfl (fun ls hl => ?_)
            refine lv_goto (tgt := 34) hx9 hb d12_isPacket_107 (by decide) ?_
            exact ih (1 : Int32) (x2 + (0 : Int32)) (x3 + (1 : Int32)) h _ _ _ hH (lv_sub hl [3, 2, 1, 0] rfl) e
          · have e := ce_if1 e hc94
            refine lv_iconst (v := (1 : Int32)) hx9 hb d12_isPacket_97 (by decide) ?_
            refine lv_goto (tgt := 102) hx9 hb d12_isPacket_98 (by decide) ?_
            refine lv_iadd hx9 hb d12_isPacket_102 ?_
            refine lv_istore_n (lv' := [(2, .int (x2 + (1 : Int32))), (1, .int (1 : Int32)), (0, .ref (ad 68)), (3, .int x3)]) hx9 hb d12_isPacket_103 rfl hl (by decide) rfl (fun ls hl => ?_)
            refine lv_iinc (v := x3 + (1 : Int32)) (lv' := [(3, .int (x3 + (1 : Int32))), (2, .int (x2 + (1 : Int32))), (1, .int (1 : Int32)), (0, .ref (ad 68))]) hx9 hb d12_isPacket_104 hl (k := 3) rfl rfl (by decide) rfl (fun ls hl => ?_)
            refine lv_goto (tgt := 34) hx9 hb d12_isPacket_107 (by decide) ?_
            exact ih (1 : Int32) (x2 + (1 : Int32)) (x3 + (1 : Int32)) h _ _ _ hH (lv_sub hl [3, 2, 1, 0] rfl) e
        · have e := ce_if0 e hc54
          refine lv_aload_n hx9 hb d12_isPacket_57 rfl (lv_at hl 0 rfl) ?_
          refine gf_12_19 C hH d12_isPacket_58 ?_
          refine lv_iload_n hx9 hb d12_isPacket_61 rfl (lv_at hl 3 rfl) ?_
          obtain ⟨hi62, e⟩ := ce_gd e
          refine ce_iald C hH lc_72.1 lc_72.2 (ce_in_vp hi62) d12_isPacket_62 ?_
          refine lv_bipush (v := (112 : Int32)) hx9 hb d12_isPacket_63 (by decide) ?_
          refine lv_icmp_eq (tgt := 79) hx9 hb d12_isPacket_65 (by decide) (fun hc65 => ?_) (fun hc65 => ?_)
          · have e := ce_if1 e hc65
            refine lv_iconst (v := (1 : Int32)) hx9 hb d12_isPacket_79 (by decide) ?_
            refine lv_goto (tgt := 84) hx9 hb d12_isPacket_80 (by decide) ?_
            refine lv_istore_n (lv' := [(1, .int (1 : Int32)), (0, .ref (ad 68)), (2, .int x2), (3, .int x3)]) hx9 hb d12_isPacket_84 rfl hl (by decide) rfl (fun ls hl => ?_)
            refine lv_iload_n hx9 hb d12_isPacket_85 rfl (lv_at hl 2 rfl) ?_
            refine lv_aload_n hx9 hb d12_isPacket_86 rfl (lv_at hl 1 rfl) ?_
            refine gf_12_19 C hH d12_isPacket_87 ?_
            refine lv_iload_n hx9 hb d12_isPacket_90 rfl (lv_at hl 3 rfl) ?_
            obtain ⟨hi91, e⟩ := ce_gd e
            refine ce_iald C hH lc_72.1 lc_72.2 (ce_in_vp hi91) d12_isPacket_91 ?_
            refine lv_bipush (v := (112 : Int32)) hx9 hb d12_isPacket_92 (by decide) ?_
            refine lv_icmp_ne (tgt := 101) hx9 hb d12_isPacket_94 (by decide) (fun hc94 => ?_) (fun hc94 => ?_)
            · have e := ce_if0 e hc94
              refine lv_iconst (v := (0 : Int32)) hx9 hb d12_isPacket_101 (by decide) ?_
              refine lv_iadd hx9 hb d12_isPacket_102 ?_
              refine lv_istore_n (lv' := [(2, .int (x2 + (0 : Int32))), (1, .int (1 : Int32)), (0, .ref (ad 68)), (3, .int x3)]) hx9 hb d12_isPacket_103 rfl hl (by decide) rfl (fun ls hl => ?_)
              refine lv_iinc (v := x3 + (1 : Int32)) (lv' := [(3, .int (x3 + (1 : Int32))), (2, .int (x2 + (0 : Int32))), (1, .int (1 : Int32)), (0, .ref (ad 68))]) hx9 hb d12_isPacket_104 hl (k := 3) rfl rfl (by decide) rfl (fun ls hl => ?_)
              refine lv_goto (tgt := 34) hx9 hb d12_isPacket_107 (by decide) ?_
              exact ih (1 : Int32) (x2 + (0 : Int32)) (x3 + (1 : Int32)) h _ _ _ hH (lv_sub hl [3, 2, 1, 0] rfl) e
            · have e := ce_if1 e hc94
              refine lv_iconst (v := (1 : Int32)) hx9 hb d12_isPacket_97 (by decide) ?_
              refine lv_goto (tgt := 102) hx9 hb d12_isPacket_98 (by decide) ?_
              refine lv_iadd hx9 hb d12_isPacket_102 ?_
              refine lv_istore_n (lv' := [(2, .int (x2 + (1 : Int32))), (1, .int (1 : Int32)), (0, .ref (ad 68)), (3, .int x3)]) hx9 hb d12_isPacket_103 rfl hl (by decide) rfl (fun ls hl => ?_)
              refine lv_iinc (v := x3 + (1 : Int32)) (lv' := [(3, .int (x3 + (1 : Int32))), (2, .int (x2 + (1 : Int32))), (1, .int (1 : Int32)), (0, .ref (ad 68))]) hx9 hb d12_isPacket_104 hl (k := 3) rfl rfl (by decide) rfl (fun ls hl => ?_)
              refine lv_goto (tgt := 34) hx9 hb d12_isPacket_107 (by decide) ?_
              exact ih (1 : Int32) (x2 + (1 : Int32)) (x3 + (1 : Int32)) h _ _ _ hH (lv_sub hl [3, 2, 1, 0] rfl) e
          · have e := ce_if0 e hc65
            refine lv_aload_n hx9 hb d12_isPacket_68 rfl (lv_at hl 0 rfl) ?_
            refine gf_12_19 C hH d12_isPacket_69 ?_
            refine lv_iload_n hx9 hb d12_isPacket_72 rfl (lv_at hl 3 rfl) ?_
            obtain ⟨hi73, e⟩ := ce_gd e
            refine ce_iald C hH lc_72.1 lc_72.2 (ce_in_vp hi73) d12_isPacket_73 ?_
            refine lv_bipush (v := (99 : Int32)) hx9 hb d12_isPacket_74 (by decide) ?_
            refine lv_icmp_ne (tgt := 83) hx9 hb d12_isPacket_76 (by decide) (fun hc76 => ?_) (fun hc76 => ?_)
            · have e := ce_if0 e hc76
              refine lv_iconst (v := (0 : Int32)) hx9 hb d12_isPacket_83 (by decide) ?_
              refine lv_istore_n (lv' := [(1, .int (0 : Int32)), (0, .ref (ad 68)), (2, .int x2), (3, .int x3)]) hx9 hb d12_isPacket_84 rfl hl (by decide) rfl (fun ls hl => ?_)
              refine lv_iload_n hx9 hb d12_isPacket_85 rfl (lv_at hl 2 rfl) ?_
              refine lv_aload_n hx9 hb d12_isPacket_86 rfl (lv_at hl 1 rfl) ?_
              refine gf_12_19 C hH d12_isPacket_87 ?_
              refine lv_iload_n hx9 hb d12_isPacket_90 rfl (lv_at hl 3 rfl) ?_
              obtain ⟨hi91, e⟩ := ce_gd e
              refine ce_iald C hH lc_72.1 lc_72.2 (ce_in_vp hi91) d12_isPacket_91 ?_
              refine lv_bipush (v := (112 : Int32)) hx9 hb d12_isPacket_92 (by decide) ?_
              refine lv_icmp_ne (tgt := 101) hx9 hb d12_isPacket_94 (by decide) (fun hc94 => ?_) (fun hc94 => ?_)
              · have e := ce_if0 e hc94
                refine lv_iconst (v := (0 : Int32)) hx9 hb d12_isPacket_101 (by decide) ?_
                refine lv_iadd hx9 hb d12_isPacket_102 ?_
                refine lv_istore_n (lv' := [(2, .int (x2 + (0 : Int32))), (1, .int (0 : Int32)), (0, .ref (ad 68)), (3, .int x3)]) hx9 hb d12_isPacket_103 rfl hl (by decide) rfl (fun ls hl => ?_)
                refine lv_iinc (v := x3 + (1 : Int32)) (lv' := [(3, .int (x3 + (1 : Int32))), (2, .int (x2 + (0 : Int32))), (1, .int (0 : Int32)), (0, .ref (ad 68))]) hx9 hb d12_isPacket_104 hl (k := 3) rfl rfl (by decide) rfl (fun ls hl => ?_)
                refine lv_goto (tgt := 34) hx9 hb d12_isPacket_107 (by decide) ?_
                exact ih (0 : Int32) (x2 + (0 : Int32)) (x3 + (1 : Int32)) h _ _ _ hH (lv_sub hl [3, 2, 1, 0] rfl) e
              · have e := ce_if1 e hc94
                refine lv_iconst (v := (1 : Int32)) hx9 hb d12_isPacket_97 (by decide) ?_
                refine lv_goto (tgt := 102) hx9 hb d12_isPacket_98 (by decide) ?_
                refine lv_iadd hx9 hb d12_isPacket_102 ?_
                refine lv_istore_n (lv' := [(2, .int (x2 + (1 : Int32))), (1, .int (0 : Int32)), (0, .ref (ad 68)), (3, .int x3)]) hx9 hb d12_isPacket_103 rfl hl (by decide) rfl (fun ls hl => ?_)
                refine lv_iinc (v := x3 + (1 : Int32)) (lv' := [(3, .int (x3 + (1 : Int32))), (2, .int (x2 + (1 : Int32))), (1, .int (0 : Int32)), (0, .ref (ad 68))]) hx9 hb d12_isPacket_104 hl (k := 3) rfl rfl (by decide) rfl (fun ls hl => ?_)
                refine lv_goto (tgt := 34) hx9 hb d12_isPacket_107 (by decide) ?_
                exact ih (0 : Int32) (x2 + (1 : Int32)) (x3 + (1 : Int32)) h _ _ _ hH (lv_sub hl [3, 2, 1, 0] rfl) e
            · have e := ce_if1 e hc76
              refine lv_iconst (v := (1 : Int32)) hx9 hb d12_isPacket_79 (by decide) ?_
              refine lv_goto (tgt := 84) hx9 hb d12_isPacket_80 (by decide) ?_
              refine lv_istore_n (lv' := [(1, .int (1 : Int32)), (0, .ref (ad 68)), (2, .int x2), (3, .int x3)]) hx9 hb d12_isPacket_84 rfl hl (by decide) rfl (fun ls hl => ?_)
              refine lv_iload_n hx9 hb d12_isPacket_85 rfl (lv_at hl 2 rfl) ?_
              refine lv_aload_n hx9 hb d12_isPacket_86 rfl (lv_at hl 1 rfl) ?_
              refine gf_12_19 C hH d12_isPacket_87 ?_
              refine lv_iload_n hx9 hb d12_isPacket_90 rfl (lv_at hl 3 rfl) ?_
              obtain ⟨hi91, e⟩ := ce_gd e
              refine ce_iald C hH lc_72.1 lc_72.2 (ce_in_vp hi91) d12_isPacket_91 ?_
              refine lv_bipush (v := (112 : Int32)) hx9 hb d12_isPacket_92 (by decide) ?_
              refine lv_icmp_ne (tgt := 101) hx9 hb d12_isPacket_94 (by decide) (fun hc94 => ?_) (fun hc94 => ?_)
              · have e := ce_if0 e hc94
                refine lv_iconst (v := (0 : Int32)) hx9 hb d12_isPacket_101 (by decide) ?_
                refine lv_iadd hx9 hb d12_isPacket_102 ?_
                refine lv_istore_n (lv' := [(2, .int (x2 + (0 : Int32))), (1, .int (1 : Int32)), (0, .ref (ad 68)), (3, .int x3)]) hx9 hb d12_isPacket_103 rfl hl (by decide) rfl (fun ls hl => ?_)
                refine lv_iinc (v := x3 + (1 : Int32)) (lv' := [(3, .int (x3 + (1 : Int32))), (2, .int (x2 + (0 : Int32))), (1, .int (1 : Int32)), (0, .ref (ad 68))]) hx9 hb d12_isPacket_104 hl (k := 3) rfl rfl (by decide) rfl (fun ls hl => ?_)
                refine lv_goto (tgt := 34) hx9 hb d12_isPacket_107 (by decide) ?_
                exact ih (1 : Int32) (x2 + (0 : Int32)) (x3 + (1 : Int32)) h _ _ _ hH (lv_sub hl [3, 2, 1, 0] rfl) e
              · have e := ce_if1 e hc94
                refine lv_iconst (v := (1 : Int32)) hx9 hb d12_isPacket_97 (by decide) ?_
                refine lv_goto (tgt := 102) hx9 hb d12_isPacket_98 (by decide) ?_
                refine lv_iadd hx9 hb d12_isPacket_102 ?_
                refine lv_istore_n (lv' := [(2, .int (x2 + (1 : Int32))), (1, .int (1 : Int32)), (0, .ref (ad 68)), (3, .int x3)]) hx9 hb d12_isPacket_103 rfl hl (by decide) rfl (fun ls hl => ?_)
                refine lv_iinc (v := x3 + (1 : Int32)) (lv' := [(3, .int (x3 + (1 : Int32))), (2, .int (x2 + (1 : Int32))), (1, .int (1 : Int32)), (0, .ref (ad 68))]) hx9 hb d12_isPacket_104 hl (k := 3) rfl rfl (by decide) rfl (fun ls hl => ?_)
                refine lv_goto (tgt := 34) hx9 hb d12_isPacket_107 (by decide) ?_
                exact ih (1 : Int32) (x2 + (1 : Int32)) (x3 + (1 : Int32)) h _ _ _ hH (lv_sub hl [3, 2, 1, 0] rfl) e
def f12_isPacket (F : Nat)  (h : Hp) : Option (Int32 × Hp) :=
  if (h 68 9) = (1 : Int32) then
    if (4 : Int32) < ((h 68 7) - (h 68 8)) then
      Option.bind (ce_it (fun (st : Int32 × Int32 × Int32 × Hp) => f12_isPacket_b34 F  st.1 st.2.1 st.2.2.1 st.2.2.2) F ((0 : Int32), (0 : Int32), h 68 8, h)) (fun o34 =>
        if o34.1 = 0 then
          some ((0 : Int32), o34.2.2)
        else
          if (2 : Int32) ≤ o34.2.1 then
            some ((0 : Int32), o34.2.2)
          else
            some ((1 : Int32), o34.2.2))
    else
      Option.bind (ce_it (fun (st : Int32 × Int32 × Int32 × Hp) => f12_isPacket_b34 F  st.1 st.2.1 st.2.2.1 st.2.2.2) F ((1 : Int32), (0 : Int32), h 68 8, h)) (fun o34 =>
        if o34.1 = 0 then
          some ((0 : Int32), o34.2.2)
        else
          if (2 : Int32) ≤ o34.2.1 then
            some ((0 : Int32), o34.2.2)
          else
            some ((1 : Int32), o34.2.2))
  else
    Option.bind (ce_it (fun (st : Int32 × Int32 × Int32 × Hp) => f12_isPacket_b34 F  st.1 st.2.1 st.2.2.1 st.2.2.2) F ((0 : Int32), (0 : Int32), h 68 8, h)) (fun o34 =>
      if o34.1 = 0 then
        some ((0 : Int32), o34.2.2)
      else
        if (2 : Int32) ≤ o34.2.1 then
          some ((0 : Int32), o34.2.2)
        else
          some ((1 : Int32), o34.2.2))
set_option maxRecDepth 20000 in
theorem c12_isPacket (l : Launch) (D : va_G) (ad : Nat → Nat) (cA : Nat → ClassId) (aK aV : Nat → Nat) (B0 : Nat) (hA : ce_Ad ad B0) (F : Nat)   (h : Hp) (r : Int32 × Hp) (e : f12_isPacket F  h = some r) : ce_Ct l D ad cA B0 (ce_St aK aV B0) y12_isPacket b12_isPacket 4 (some .boolean) 0 0 0 0 [.ref (ad 68)] h (some (.int r.1)) r.2 := by
  refine ce_enter hA (by decide) rfl (Nat.le_of_ble_eq_true rfl) (fun p e0 s m below meth c ls C hH hl => ?_)
  have hl : lv_has ls 4 [(0, .ref (ad 68))] := hl
  have hx := C.1
  have hb := C.2.1
  have e : Option.bind _ some = some r := (congrArg (fun z => Option.bind z some) e).trans rfl
  unfold f12_isPacket at e
  refine lv_aload_n hx hb d12_isPacket_0 rfl (lv_at hl 0 rfl) ?_
  refine gf_12_115 C hH d12_isPacket_1 ?_
  refine lv_iconst (v := (1 : Int32)) hx hb d12_isPacket_4 (by decide) ?_
  refine lv_icmp_ne (tgt := 25) hx hb d12_isPacket_5 (by decide) (fun hc5 => ?_) (fun hc5 => ?_)
  · have e := ce_if0 e hc5
    refine lv_iconst (v := (0 : Int32)) hx hb d12_isPacket_25 (by decide) ?_
    refine lv_istore_n (lv' := [(1, .int (0 : Int32)), (0, .ref (ad 68))]) hx hb d12_isPacket_26 rfl hl (by decide) rfl (fun ls hl => ?_)
    refine lv_iconst (v := (0 : Int32)) hx hb d12_isPacket_27 (by decide) ?_
    refine lv_istore_n (lv' := [(2, .int (0 : Int32)), (1, .int (0 : Int32)), (0, .ref (ad 68))]) hx hb d12_isPacket_28 rfl hl (by decide) rfl (fun ls hl => ?_)
    refine lv_aload_n hx hb d12_isPacket_29 rfl (lv_at hl 2 rfl) ?_
    refine gf_12_109 C hH d12_isPacket_30 ?_
    refine lv_istore_n (lv' := [(3, .int (h 68 8)), (2, .int (0 : Int32)), (1, .int (0 : Int32)), (0, .ref (ad 68))]) hx hb d12_isPacket_33 rfl hl (by decide) rfl (fun ls hl => ?_)
    refine l12_isPacket_34 C F   r _ (fun y34_1 y34_2 h_34 H locs ls hH hl e => ?_) F (0 : Int32) (0 : Int32) (h 68 8) h _ _ _ hH (lv_sub hl [3, 2, 1, 0] rfl) (ce_as e)
    try dsimp only at e
    refine lv_iload_n hx hb d12_isPacket_110 rfl (lv_at hl 0 rfl) ?_
    refine lv_if_eq (tgt := 123) hx hb d12_isPacket_111 (by decide) (fun hc111 => ?_) (fun hc111 => ?_)
    · have e := ce_if1 e hc111
      refine lv_iconst (v := (0 : Int32)) hx hb d12_isPacket_123 (by decide) ?_
      exact ce_zretE C (ce_sok aK aV B0) hH (Or.inl rfl) e d12_isPacket_124
    · have e := ce_if0 e hc111
      refine lv_iload_n hx hb d12_isPacket_114 rfl (lv_at hl 1 rfl) ?_
      refine lv_iconst (v := (2 : Int32)) hx hb d12_isPacket_115 (by decide) ?_
      refine lv_icmp_ge (tgt := 123) hx hb d12_isPacket_116 (by decide) (fun hc116 => ?_) (fun hc116 => ?_)
      · have e := ce_if1 e hc116
        refine lv_iconst (v := (0 : Int32)) hx hb d12_isPacket_123 (by decide) ?_
        exact ce_zretE C (ce_sok aK aV B0) hH (Or.inl rfl) e d12_isPacket_124
      · have e := ce_if0 e hc116
        refine lv_iconst (v := (1 : Int32)) hx hb d12_isPacket_119 (by decide) ?_
        refine lv_goto (tgt := 124) hx hb d12_isPacket_120 (by decide) ?_
        exact ce_zretE C (ce_sok aK aV B0) hH (Or.inr rfl) e d12_isPacket_124
  · have e := ce_if1 e hc5
    refine lv_aload_n hx hb d12_isPacket_8 rfl (lv_at hl 0 rfl) ?_
    refine gf_12_102 C hH d12_isPacket_9 ?_
    refine lv_aload_n hx hb d12_isPacket_12 rfl (lv_at hl 0 rfl) ?_
    refine gf_12_109 C hH d12_isPacket_13 ?_
    refine lv_isub hx hb d12_isPacket_16 ?_
    refine lv_iconst (v := (4 : Int32)) hx hb d12_isPacket_17 (by decide) ?_
    refine lv_icmp_gt (tgt := 25) hx hb d12_isPacket_18 (by decide) (fun hc18 => ?_) (fun hc18 => ?_)
    · have e := ce_if1 e hc18
      refine lv_iconst (v := (0 : Int32)) hx hb d12_isPacket_25 (by decide) ?_
      refine lv_istore_n (lv' := [(1, .int (0 : Int32)), (0, .ref (ad 68))]) hx hb d12_isPacket_26 rfl hl (by decide) rfl (fun ls hl => ?_)
      refine lv_iconst (v := (0 : Int32)) hx hb d12_isPacket_27 (by decide) ?_
      refine lv_istore_n (lv' := [(2, .int (0 : Int32)), (1, .int (0 : Int32)), (0, .ref (ad 68))]) hx hb d12_isPacket_28 rfl hl (by decide) rfl (fun ls hl => ?_)
      refine lv_aload_n hx hb d12_isPacket_29 rfl (lv_at hl 2 rfl) ?_
      refine gf_12_109 C hH d12_isPacket_30 ?_
      refine lv_istore_n (lv' := [(3, .int (h 68 8)), (2, .int (0 : Int32)), (1, .int (0 : Int32)), (0, .ref (ad 68))]) hx hb d12_isPacket_33 rfl hl (by decide) rfl (fun ls hl => ?_)
      refine l12_isPacket_34 C F   r _ (fun y34_1 y34_2 h_34 H locs ls hH hl e => ?_) F (0 : Int32) (0 : Int32) (h 68 8) h _ _ _ hH (lv_sub hl [3, 2, 1, 0] rfl) (ce_as e)
      try dsimp only at e
      refine lv_iload_n hx hb d12_isPacket_110 rfl (lv_at hl 0 rfl) ?_
      refine lv_if_eq (tgt := 123) hx hb d12_isPacket_111 (by decide) (fun hc111 => ?_) (fun hc111 => ?_)
      · have e := ce_if1 e hc111
        refine lv_iconst (v := (0 : Int32)) hx hb d12_isPacket_123 (by decide) ?_
        exact ce_zretE C (ce_sok aK aV B0) hH (Or.inl rfl) e d12_isPacket_124
      · have e := ce_if0 e hc111
        refine lv_iload_n hx hb d12_isPacket_114 rfl (lv_at hl 1 rfl) ?_
        refine lv_iconst (v := (2 : Int32)) hx hb d12_isPacket_115 (by decide) ?_
        refine lv_icmp_ge (tgt := 123) hx hb d12_isPacket_116 (by decide) (fun hc116 => ?_) (fun hc116 => ?_)
        · have e := ce_if1 e hc116
          refine lv_iconst (v := (0 : Int32)) hx hb d12_isPacket_123 (by decide) ?_
          exact ce_zretE C (ce_sok aK aV B0) hH (Or.inl rfl) e d12_isPacket_124
        · have e := ce_if0 e hc116
          refine lv_iconst (v := (1 : Int32)) hx hb d12_isPacket_119 (by decide) ?_
          refine lv_goto (tgt := 124) hx hb d12_isPacket_120 (by decide) ?_
          exact ce_zretE C (ce_sok aK aV B0) hH (Or.inr rfl) e d12_isPacket_124
    · have e := ce_if0 e hc18
      refine lv_iconst (v := (1 : Int32)) hx hb d12_isPacket_21 (by decide) ?_
      refine lv_goto (tgt := 26) hx hb d12_isPacket_22 (by decide) ?_
      refine lv_istore_n (lv' := [(1, .int (1 : Int32)), (0, .ref (ad 68))]) hx hb d12_isPacket_26 rfl hl (by decide) rfl (fun ls hl => ?_)
      refine lv_iconst (v := (0 : Int32)) hx hb d12_isPacket_27 (by decide) ?_
      refine lv_istore_n (lv' := [(2, .int (0 : Int32)), (1, .int (1 : Int32)), (0, .ref (ad 68))]) hx hb d12_isPacket_28 rfl hl (by decide) rfl (fun ls hl => ?_)
      refine lv_aload_n hx hb d12_isPacket_29 rfl (lv_at hl 2 rfl) ?_
      refine gf_12_109 C hH d12_isPacket_30 ?_
      refine lv_istore_n (lv' := [(3, .int (h 68 8)), (2, .int (0 : Int32)), (1, .int (1 : Int32)), (0, .ref (ad 68))]) hx hb d12_isPacket_33 rfl hl (by decide) rfl (fun ls hl => ?_)
      refine l12_isPacket_34 C F   r _ (fun y34_1 y34_2 h_34 H locs ls hH hl e => ?_) F (1 : Int32) (0 : Int32) (h 68 8) h _ _ _ hH (lv_sub hl [3, 2, 1, 0] rfl) (ce_as e)
      try dsimp only at e
      refine lv_iload_n hx hb d12_isPacket_110 rfl (lv_at hl 0 rfl) ?_
      refine lv_if_eq (tgt := 123) hx hb d12_isPacket_111 (by decide) (fun hc111 => ?_) (fun hc111 => ?_)
      · have e := ce_if1 e hc111
        refine lv_iconst (v := (0 : Int32)) hx hb d12_isPacket_123 (by decide) ?_
        exact ce_zretE C (ce_sok aK aV B0) hH (Or.inl rfl) e d12_isPacket_124
      · have e := ce_if0 e hc111
        refine lv_iload_n hx hb d12_isPacket_114 rfl (lv_at hl 1 rfl) ?_
        refine lv_iconst (v := (2 : Int32)) hx hb d12_isPacket_115 (by decide) ?_
        refine lv_icmp_ge (tgt := 123) hx hb d12_isPacket_116 (by decide) (fun hc116 => ?_) (fun hc116 => ?_)
        · have e := ce_if1 e hc116
          refine lv_iconst (v := (0 : Int32)) hx hb d12_isPacket_123 (by decide) ?_
          exact ce_zretE C (ce_sok aK aV B0) hH (Or.inl rfl) e d12_isPacket_124
        · have e := ce_if0 e hc116
          refine lv_iconst (v := (1 : Int32)) hx hb d12_isPacket_119 (by decide) ?_
          refine lv_goto (tgt := 124) hx hb d12_isPacket_120 (by decide) ?_
          exact ce_zretE C (ce_sok aK aV B0) hH (Or.inr rfl) e d12_isPacket_124
abbrev b12_lettersHere : ByteArray := prog_14_method_77_code
def y12_lettersHere : MethodName := ⟨cn_12, "lettersHere", "(C)I"⟩
theorem d12_lettersHere_0 : decode b12_lettersHere 0 = .ok (.iconst 0, 1) := by decide +kernel
theorem d12_lettersHere_1 : decode b12_lettersHere 1 = .ok (.istore_n 2, 1) := by decide +kernel
theorem d12_lettersHere_2 : decode b12_lettersHere 2 = .ok (.aload_n 0, 1) := by decide +kernel
theorem d12_lettersHere_3 : decode b12_lettersHere 3 = .ok (.getfield 109, 3) := by decide +kernel
theorem d12_lettersHere_6 : decode b12_lettersHere 6 = .ok (.istore_n 3, 1) := by decide +kernel
theorem d12_lettersHere_7 : decode b12_lettersHere 7 = .ok (.iload_n 3, 1) := by decide +kernel
theorem d12_lettersHere_8 : decode b12_lettersHere 8 = .ok (.aload_n 0, 1) := by decide +kernel
theorem d12_lettersHere_9 : decode b12_lettersHere 9 = .ok (.getfield 102, 3) := by decide +kernel
theorem d12_lettersHere_12 : decode b12_lettersHere 12 = .ok (.if_icmp .ge 27, 3) := by decide +kernel
theorem d12_lettersHere_15 : decode b12_lettersHere 15 = .ok (.iload_n 2, 1) := by decide +kernel
theorem d12_lettersHere_16 : decode b12_lettersHere 16 = .ok (.aload_n 0, 1) := by decide +kernel
theorem d12_lettersHere_17 : decode b12_lettersHere 17 = .ok (.getfield 19, 3) := by decide +kernel
theorem d12_lettersHere_20 : decode b12_lettersHere 20 = .ok (.iload_n 3, 1) := by decide +kernel
theorem d12_lettersHere_21 : decode b12_lettersHere 21 = .ok (.iaload, 1) := by decide +kernel
theorem d12_lettersHere_22 : decode b12_lettersHere 22 = .ok (.iload_n 1, 1) := by decide +kernel
theorem d12_lettersHere_23 : decode b12_lettersHere 23 = .ok (.if_icmp .ne 7, 3) := by decide +kernel
theorem d12_lettersHere_26 : decode b12_lettersHere 26 = .ok (.iconst 1, 1) := by decide +kernel
theorem d12_lettersHere_27 : decode b12_lettersHere 27 = .ok (.goto 4, 3) := by decide +kernel
theorem d12_lettersHere_30 : decode b12_lettersHere 30 = .ok (.iconst 0, 1) := by decide +kernel
theorem d12_lettersHere_31 : decode b12_lettersHere 31 = .ok (.iadd, 1) := by decide +kernel
theorem d12_lettersHere_32 : decode b12_lettersHere 32 = .ok (.istore_n 2, 1) := by decide +kernel
theorem d12_lettersHere_33 : decode b12_lettersHere 33 = .ok (.iinc 3 1, 3) := by decide +kernel
theorem d12_lettersHere_36 : decode b12_lettersHere 36 = .ok (.goto (-29), 3) := by decide +kernel
theorem d12_lettersHere_39 : decode b12_lettersHere 39 = .ok (.iload_n 2, 1) := by decide +kernel
theorem d12_lettersHere_40 : decode b12_lettersHere 40 = .ok (.ireturn, 1) := by decide +kernel
def f12_lettersHere_b7 (F : Nat) (x1 : Int32) (x2 : Int32) (x3 : Int32) (h : Hp) : Option ((Int32 × Int32 × Hp) ⊕ (Int32 × Hp)) :=
  if (h 68 7) ≤ x3 then
    some (.inr (x2, h))
  else
    if ce_in x3 700 = true then
      if (h 72 (x3).toNatClampNeg) = x1 then
        some (.inl (x2 + (1 : Int32), x3 + (1 : Int32), h))
      else
        some (.inl (x2 + (0 : Int32), x3 + (1 : Int32), h))
    else none
set_option maxRecDepth 20000 in
theorem l12_lettersHere_7 (C : ce_Cx p s m args c meth b12_lettersHere 4 (some .int) cn_12 D ad cA B0 (ce_St aK aV B0)) (F : Nat) (x1 : Int32)  (r : Int32 × Hp) (g : (Int32 × Hp) → Option (Int32 × Hp)) (hx : ∀ (x2 : Int32) (h : Hp) (H : Heap) (locs : List Loc) (ls : Array Slot), ce_H D ad cA B0 [] s h H locs → lv_has ls 4 [(2, .int x2)] → g (x2, h) = some r → W p l e0 { frames := 0, cells := 0, slots := 0, locals := 0 } s m args below meth c H locs 0 0 (MQ below (ce_Q D ad cA B0 (ce_St aK aV B0) (some (.int r.1)) r.2) args s 0 0 (fun q => B0 ≤ q)) (F0 m 39 ls [])) : ∀ (n : Nat) (x2 : Int32) (x3 : Int32) (h : Hp) (H : Heap) (locs : List Loc) (ls : Array Slot), ce_H D ad cA B0 [] s h H locs → lv_has ls 4 [(0, .ref (ad 68)), (1, .int x1), (2, .int x2), (3, .int x3)] → Option.bind (ce_it (fun (st : Int32 × Int32 × Hp) => f12_lettersHere_b7 F x1 st.1 st.2.1 st.2.2) n (x2, x3, h)) g = some r → W p l e0 { frames := 0, cells := 0, slots := 0, locals := 0 } s m args below meth c H locs 0 0 (MQ below (ce_Q D ad cA B0 (ce_St aK aV B0) (some (.int r.1)) r.2) args s 0 0 (fun q => B0 ≤ q)) (F0 m 7 ls []) := by
  intro n
  induction n with
  | zero =>
    intro x2 x3 h H locs ls hH hl e
    exact absurd e (fun z => by cases z)
  | succ n ih =>
    intro x2 x3 h H locs ls hH hl e
    have hx9 := C.1
    have hb := C.2.1
    have e : Option.bind (f12_lettersHere_b7 F x1 x2 x3 h) _ = some r := ce_it_bd e
    unfold f12_lettersHere_b7 at e
    refine lv_iload_n hx9 hb d12_lettersHere_7 rfl (lv_at hl 3 rfl) ?_
    refine lv_aload_n hx9 hb d12_lettersHere_8 rfl (lv_at hl 0 rfl) ?_
    refine gf_12_102 C hH d12_lettersHere_9 ?_
    refine lv_icmp_ge (tgt := 39) hx9 hb d12_lettersHere_12 (by decide) (fun hc12 => ?_) (fun hc12 => ?_)
    · have e := ce_if1 e hc12
      exact hx x2 h _ _ _ hH (lv_sub hl [2] rfl) e
    · have e := ce_if0 e hc12
      refine lv_iload_n hx9 hb d12_lettersHere_15 rfl (lv_at hl 2 rfl) ?_
      refine lv_aload_n hx9 hb d12_lettersHere_16 rfl (lv_at hl 0 rfl) ?_
      refine gf_12_19 C hH d12_lettersHere_17 ?_
      refine lv_iload_n hx9 hb d12_lettersHere_20 rfl (lv_at hl 3 rfl) ?_
      obtain ⟨hi21, e⟩ := ce_gd e
      refine ce_iald C hH lc_72.1 lc_72.2 (ce_in_vp hi21) d12_lettersHere_21 ?_
      refine lv_iload_n hx9 hb d12_lettersHere_22 rfl (lv_at hl 1 rfl) ?_
      refine lv_icmp_ne (tgt := 30) hx9 hb d12_lettersHere_23 (by decide) (fun hc23 => ?_) (fun hc23 => ?_)
      · have e := ce_if0 e hc23
        refine lv_iconst (v := (0 : Int32)) hx9 hb d12_lettersHere_30 (by decide) ?_
        refine lv_iadd hx9 hb d12_lettersHere_31 ?_
        refine lv_istore_n (lv' := [(2, .int (x2 + (0 : Int32))), (0, .ref (ad 68)), (1, .int x1), (3, .int x3)]) hx9 hb d12_lettersHere_32 rfl hl (by decide) rfl (fun ls hl => ?_)
        refine lv_iinc (v := x3 + (1 : Int32)) (lv' := [(3, .int (x3 + (1 : Int32))), (2, .int (x2 + (0 : Int32))), (0, .ref (ad 68)), (1, .int x1)]) hx9 hb d12_lettersHere_33 hl (k := 3) rfl rfl (by decide) rfl (fun ls hl => ?_)
        refine lv_goto (tgt := 7) hx9 hb d12_lettersHere_36 (by decide) ?_
        exact ih (x2 + (0 : Int32)) (x3 + (1 : Int32)) h _ _ _ hH (lv_sub hl [2, 3, 1, 0] rfl) e
      · have e := ce_if1 e hc23
        refine lv_iconst (v := (1 : Int32)) hx9 hb d12_lettersHere_26 (by decide) ?_
        refine lv_goto (tgt := 31) hx9 hb d12_lettersHere_27 (by decide) ?_
        refine lv_iadd hx9 hb d12_lettersHere_31 ?_
        refine lv_istore_n (lv' := [(2, .int (x2 + (1 : Int32))), (0, .ref (ad 68)), (1, .int x1), (3, .int x3)]) hx9 hb d12_lettersHere_32 rfl hl (by decide) rfl (fun ls hl => ?_)
        refine lv_iinc (v := x3 + (1 : Int32)) (lv' := [(3, .int (x3 + (1 : Int32))), (2, .int (x2 + (1 : Int32))), (0, .ref (ad 68)), (1, .int x1)]) hx9 hb d12_lettersHere_33 hl (k := 3) rfl rfl (by decide) rfl (fun ls hl => ?_)
        refine lv_goto (tgt := 7) hx9 hb d12_lettersHere_36 (by decide) ?_
        exact ih (x2 + (1 : Int32)) (x3 + (1 : Int32)) h _ _ _ hH (lv_sub hl [2, 3, 1, 0] rfl) e
def f12_lettersHere (F : Nat) (x1 : Int32) (h : Hp) : Option (Int32 × Hp) :=
  Option.bind (ce_it (fun (st : Int32 × Int32 × Hp) => f12_lettersHere_b7 F x1 st.1 st.2.1 st.2.2) F ((0 : Int32), h 68 8, h)) (fun o7 =>
    some (o7.1, o7.2))
set_option maxRecDepth 20000 in
theorem c12_lettersHere (l : Launch) (D : va_G) (ad : Nat → Nat) (cA : Nat → ClassId) (aK aV : Nat → Nat) (B0 : Nat) (hA : ce_Ad ad B0) (F : Nat) (x1 : Int32)  (h : Hp) (r : Int32 × Hp) (e : f12_lettersHere F x1 h = some r) : ce_Ct l D ad cA B0 (ce_St aK aV B0) y12_lettersHere b12_lettersHere 4 (some .int) 0 0 0 0 [.ref (ad 68), .int x1] h (some (.int r.1)) r.2 := by
  refine ce_enter hA (by decide) rfl (Nat.le_of_ble_eq_true rfl) (fun p e0 s m below meth c ls C hH hl => ?_)
  have hl : lv_has ls 4 [(0, .ref (ad 68)), (1, .int x1)] := hl
  have hx := C.1
  have hb := C.2.1
  have e : Option.bind _ some = some r := (congrArg (fun z => Option.bind z some) e).trans rfl
  unfold f12_lettersHere at e
  refine lv_iconst (v := (0 : Int32)) hx hb d12_lettersHere_0 (by decide) ?_
  refine lv_istore_n (lv' := [(2, .int (0 : Int32)), (0, .ref (ad 68)), (1, .int x1)]) hx hb d12_lettersHere_1 rfl hl (by decide) rfl (fun ls hl => ?_)
  refine lv_aload_n hx hb d12_lettersHere_2 rfl (lv_at hl 1 rfl) ?_
  refine gf_12_109 C hH d12_lettersHere_3 ?_
  refine lv_istore_n (lv' := [(3, .int (h 68 8)), (2, .int (0 : Int32)), (0, .ref (ad 68)), (1, .int x1)]) hx hb d12_lettersHere_6 rfl hl (by decide) rfl (fun ls hl => ?_)
  refine l12_lettersHere_7 C F x1  r _ (fun y7_2 h_7 H locs ls hH hl e => ?_) F (0 : Int32) (h 68 8) h _ _ _ hH (lv_sub hl [2, 3, 1, 0] rfl) (ce_as e)
  try dsimp only at e
  refine lv_iload_n hx hb d12_lettersHere_39 rfl (lv_at hl 0 rfl) ?_
  exact ce_iretE C (ce_sok aK aV B0) hH e d12_lettersHere_40
abbrev b12_readsPacket : ByteArray := prog_14_method_78_code
def y12_readsPacket : MethodName := ⟨cn_12, "readsPacket", "()V"⟩
theorem d12_readsPacket_0 : decode b12_readsPacket 0 = .ok (.aload_n 0, 1) := by decide +kernel
theorem d12_readsPacket_1 : decode b12_readsPacket 1 = .ok (.invokevirtual 319, 3) := by decide +kernel
theorem d12_readsPacket_4 : decode b12_readsPacket 4 = .ok (.ifCond .ne 9, 3) := by decide +kernel
theorem d12_readsPacket_7 : decode b12_readsPacket 7 = .ok (.aload_n 0, 1) := by decide +kernel
theorem d12_readsPacket_8 : decode b12_readsPacket 8 = .ok (.iconst 1, 1) := by decide +kernel
theorem d12_readsPacket_9 : decode b12_readsPacket 9 = .ok (.invokevirtual 142, 3) := by decide +kernel
theorem d12_readsPacket_12 : decode b12_readsPacket 12 = .ok (.return_, 1) := by decide +kernel
theorem d12_readsPacket_13 : decode b12_readsPacket 13 = .ok (.aload_n 0, 1) := by decide +kernel
theorem d12_readsPacket_14 : decode b12_readsPacket 14 = .ok (.bipush 99, 2) := by decide +kernel
theorem d12_readsPacket_16 : decode b12_readsPacket 16 = .ok (.invokevirtual 322, 3) := by decide +kernel
theorem d12_readsPacket_19 : decode b12_readsPacket 19 = .ok (.istore_n 1, 1) := by decide +kernel
theorem d12_readsPacket_20 : decode b12_readsPacket 20 = .ok (.aload_n 0, 1) := by decide +kernel
theorem d12_readsPacket_21 : decode b12_readsPacket 21 = .ok (.bipush 112, 2) := by decide +kernel
theorem d12_readsPacket_23 : decode b12_readsPacket 23 = .ok (.invokevirtual 322, 3) := by decide +kernel
theorem d12_readsPacket_26 : decode b12_readsPacket 26 = .ok (.ifCond .ne 7, 3) := by decide +kernel
theorem d12_readsPacket_29 : decode b12_readsPacket 29 = .ok (.iconst 1, 1) := by decide +kernel
theorem d12_readsPacket_30 : decode b12_readsPacket 30 = .ok (.goto 4, 3) := by decide +kernel
theorem d12_readsPacket_33 : decode b12_readsPacket 33 = .ok (.iconst 0, 1) := by decide +kernel
theorem d12_readsPacket_34 : decode b12_readsPacket 34 = .ok (.istore_n 2, 1) := by decide +kernel
theorem d12_readsPacket_35 : decode b12_readsPacket 35 = .ok (.iload_n 1, 1) := by decide +kernel
theorem d12_readsPacket_36 : decode b12_readsPacket 36 = .ok (.aload_n 0, 1) := by decide +kernel
theorem d12_readsPacket_37 : decode b12_readsPacket 37 = .ok (.getfield 326, 3) := by decide +kernel
theorem d12_readsPacket_40 : decode b12_readsPacket 40 = .ok (.if_icmp .gt 15, 3) := by decide +kernel
theorem d12_readsPacket_43 : decode b12_readsPacket 43 = .ok (.iload_n 2, 1) := by decide +kernel
theorem d12_readsPacket_44 : decode b12_readsPacket 44 = .ok (.ifCond .eq 19, 3) := by decide +kernel
theorem d12_readsPacket_47 : decode b12_readsPacket 47 = .ok (.iload_n 1, 1) := by decide +kernel
theorem d12_readsPacket_48 : decode b12_readsPacket 48 = .ok (.aload_n 0, 1) := by decide +kernel
theorem d12_readsPacket_49 : decode b12_readsPacket 49 = .ok (.getfield 326, 3) := by decide +kernel
theorem d12_readsPacket_52 : decode b12_readsPacket 52 = .ok (.if_icmp .ge 11, 3) := by decide +kernel
theorem d12_readsPacket_55 : decode b12_readsPacket 55 = .ok (.aload_n 0, 1) := by decide +kernel
theorem d12_readsPacket_56 : decode b12_readsPacket 56 = .ok (.iconst 2, 1) := by decide +kernel
theorem d12_readsPacket_57 : decode b12_readsPacket 57 = .ok (.invokevirtual 142, 3) := by decide +kernel
theorem d12_readsPacket_60 : decode b12_readsPacket 60 = .ok (.goto 24, 3) := by decide +kernel
theorem d12_readsPacket_63 : decode b12_readsPacket 63 = .ok (.aload_n 0, 1) := by decide +kernel
theorem d12_readsPacket_64 : decode b12_readsPacket 64 = .ok (.getfield 329, 3) := by decide +kernel
theorem d12_readsPacket_67 : decode b12_readsPacket 67 = .ok (.bipush 12, 2) := by decide +kernel
theorem d12_readsPacket_69 : decode b12_readsPacket 69 = .ok (.if_icmp .eq 10, 3) := by decide +kernel
theorem d12_readsPacket_72 : decode b12_readsPacket 72 = .ok (.aload_n 0, 1) := by decide +kernel
theorem d12_readsPacket_73 : decode b12_readsPacket 73 = .ok (.getfield 332, 3) := by decide +kernel
theorem d12_readsPacket_76 : decode b12_readsPacket 76 = .ok (.ifCond .eq 8, 3) := by decide +kernel
theorem d12_readsPacket_79 : decode b12_readsPacket 79 = .ok (.aload_n 0, 1) := by decide +kernel
theorem d12_readsPacket_80 : decode b12_readsPacket 80 = .ok (.iconst 3, 1) := by decide +kernel
theorem d12_readsPacket_81 : decode b12_readsPacket 81 = .ok (.invokevirtual 142, 3) := by decide +kernel
theorem d12_readsPacket_84 : decode b12_readsPacket 84 = .ok (.aload_n 0, 1) := by decide +kernel
theorem d12_readsPacket_85 : decode b12_readsPacket 85 = .ok (.getfield 125, 3) := by decide +kernel
theorem d12_readsPacket_88 : decode b12_readsPacket 88 = .ok (.ifCond .eq 4, 3) := by decide +kernel
theorem d12_readsPacket_91 : decode b12_readsPacket 91 = .ok (.return_, 1) := by decide +kernel
theorem d12_readsPacket_92 : decode b12_readsPacket 92 = .ok (.aload_n 0, 1) := by decide +kernel
theorem d12_readsPacket_93 : decode b12_readsPacket 93 = .ok (.getfield 109, 3) := by decide +kernel
theorem d12_readsPacket_96 : decode b12_readsPacket 96 = .ok (.istore_n 3, 1) := by decide +kernel
theorem d12_readsPacket_97 : decode b12_readsPacket 97 = .ok (.iload_n 3, 1) := by decide +kernel
theorem d12_readsPacket_98 : decode b12_readsPacket 98 = .ok (.aload_n 0, 1) := by decide +kernel
theorem d12_readsPacket_99 : decode b12_readsPacket 99 = .ok (.getfield 102, 3) := by decide +kernel
theorem d12_readsPacket_102 : decode b12_readsPacket 102 = .ok (.if_icmp .ge 58, 3) := by decide +kernel
theorem d12_readsPacket_105 : decode b12_readsPacket 105 = .ok (.aload_n 0, 1) := by decide +kernel
theorem d12_readsPacket_106 : decode b12_readsPacket 106 = .ok (.getfield 74, 3) := by decide +kernel
theorem d12_readsPacket_109 : decode b12_readsPacket 109 = .ok (.iconst 4, 1) := by decide +kernel
theorem d12_readsPacket_110 : decode b12_readsPacket 110 = .ok (.aload_n 0, 1) := by decide +kernel
theorem d12_readsPacket_111 : decode b12_readsPacket 111 = .ok (.getfield 329, 3) := by decide +kernel
theorem d12_readsPacket_114 : decode b12_readsPacket 114 = .ok (.imul, 1) := by decide +kernel
theorem d12_readsPacket_115 : decode b12_readsPacket 115 = .ok (.iload_n 3, 1) := by decide +kernel
theorem d12_readsPacket_116 : decode b12_readsPacket 116 = .ok (.iadd, 1) := by decide +kernel
theorem d12_readsPacket_117 : decode b12_readsPacket 117 = .ok (.aload_n 0, 1) := by decide +kernel
theorem d12_readsPacket_118 : decode b12_readsPacket 118 = .ok (.getfield 109, 3) := by decide +kernel
theorem d12_readsPacket_121 : decode b12_readsPacket 121 = .ok (.isub, 1) := by decide +kernel
theorem d12_readsPacket_122 : decode b12_readsPacket 122 = .ok (.aload_n 0, 1) := by decide +kernel
theorem d12_readsPacket_123 : decode b12_readsPacket 123 = .ok (.getfield 19, 3) := by decide +kernel
theorem d12_readsPacket_126 : decode b12_readsPacket 126 = .ok (.iload_n 3, 1) := by decide +kernel
theorem d12_readsPacket_127 : decode b12_readsPacket 127 = .ok (.iaload, 1) := by decide +kernel
theorem d12_readsPacket_128 : decode b12_readsPacket 128 = .ok (.bipush 110, 2) := by decide +kernel
theorem d12_readsPacket_130 : decode b12_readsPacket 130 = .ok (.if_icmp .ne 7, 3) := by decide +kernel
theorem d12_readsPacket_133 : decode b12_readsPacket 133 = .ok (.iconst 0, 1) := by decide +kernel
theorem d12_readsPacket_134 : decode b12_readsPacket 134 = .ok (.goto 19, 3) := by decide +kernel
theorem d12_readsPacket_137 : decode b12_readsPacket 137 = .ok (.aload_n 0, 1) := by decide +kernel
theorem d12_readsPacket_138 : decode b12_readsPacket 138 = .ok (.getfield 19, 3) := by decide +kernel
theorem d12_readsPacket_141 : decode b12_readsPacket 141 = .ok (.iload_n 3, 1) := by decide +kernel
theorem d12_readsPacket_142 : decode b12_readsPacket 142 = .ok (.iaload, 1) := by decide +kernel
theorem d12_readsPacket_143 : decode b12_readsPacket 143 = .ok (.bipush 112, 2) := by decide +kernel
theorem d12_readsPacket_145 : decode b12_readsPacket 145 = .ok (.if_icmp .ne 7, 3) := by decide +kernel
theorem d12_readsPacket_148 : decode b12_readsPacket 148 = .ok (.iconst 1, 1) := by decide +kernel
theorem d12_readsPacket_149 : decode b12_readsPacket 149 = .ok (.goto 4, 3) := by decide +kernel
theorem d12_readsPacket_152 : decode b12_readsPacket 152 = .ok (.iconst 2, 1) := by decide +kernel
theorem d12_readsPacket_153 : decode b12_readsPacket 153 = .ok (.iastore, 1) := by decide +kernel
theorem d12_readsPacket_154 : decode b12_readsPacket 154 = .ok (.iinc 3 1, 3) := by decide +kernel
theorem d12_readsPacket_157 : decode b12_readsPacket 157 = .ok (.goto (-60), 3) := by decide +kernel
theorem d12_readsPacket_160 : decode b12_readsPacket 160 = .ok (.aload_n 0, 1) := by decide +kernel
theorem d12_readsPacket_161 : decode b12_readsPacket 161 = .ok (.getfield 71, 3) := by decide +kernel
theorem d12_readsPacket_164 : decode b12_readsPacket 164 = .ok (.aload_n 0, 1) := by decide +kernel
theorem d12_readsPacket_165 : decode b12_readsPacket 165 = .ok (.getfield 329, 3) := by decide +kernel
theorem d12_readsPacket_168 : decode b12_readsPacket 168 = .ok (.aload_n 0, 1) := by decide +kernel
theorem d12_readsPacket_169 : decode b12_readsPacket 169 = .ok (.getfield 102, 3) := by decide +kernel
theorem d12_readsPacket_172 : decode b12_readsPacket 172 = .ok (.aload_n 0, 1) := by decide +kernel
theorem d12_readsPacket_173 : decode b12_readsPacket 173 = .ok (.getfield 109, 3) := by decide +kernel
theorem d12_readsPacket_176 : decode b12_readsPacket 176 = .ok (.isub, 1) := by decide +kernel
theorem d12_readsPacket_177 : decode b12_readsPacket 177 = .ok (.iastore, 1) := by decide +kernel
theorem d12_readsPacket_178 : decode b12_readsPacket 178 = .ok (.aload_n 0, 1) := by decide +kernel
theorem d12_readsPacket_179 : decode b12_readsPacket 179 = .ok (.dup, 1) := by decide +kernel
theorem d12_readsPacket_180 : decode b12_readsPacket 180 = .ok (.getfield 326, 3) := by decide +kernel
theorem d12_readsPacket_183 : decode b12_readsPacket 183 = .ok (.iload_n 1, 1) := by decide +kernel
theorem d12_readsPacket_184 : decode b12_readsPacket 184 = .ok (.isub, 1) := by decide +kernel
theorem d12_readsPacket_185 : decode b12_readsPacket 185 = .ok (.putfield 326, 3) := by decide +kernel
theorem d12_readsPacket_188 : decode b12_readsPacket 188 = .ok (.aload_n 0, 1) := by decide +kernel
theorem d12_readsPacket_189 : decode b12_readsPacket 189 = .ok (.getfield 86, 3) := by decide +kernel
theorem d12_readsPacket_192 : decode b12_readsPacket 192 = .ok (.aload_n 0, 1) := by decide +kernel
theorem d12_readsPacket_193 : decode b12_readsPacket 193 = .ok (.getfield 326, 3) := by decide +kernel
theorem d12_readsPacket_196 : decode b12_readsPacket 196 = .ok (.aload_n 0, 1) := by decide +kernel
theorem d12_readsPacket_197 : decode b12_readsPacket 197 = .ok (.getfield 329, 3) := by decide +kernel
theorem d12_readsPacket_200 : decode b12_readsPacket 200 = .ok (.iastore, 1) := by decide +kernel
theorem d12_readsPacket_201 : decode b12_readsPacket 201 = .ok (.aload_n 0, 1) := by decide +kernel
theorem d12_readsPacket_202 : decode b12_readsPacket 202 = .ok (.dup, 1) := by decide +kernel
theorem d12_readsPacket_203 : decode b12_readsPacket 203 = .ok (.getfield 326, 3) := by decide +kernel
theorem d12_readsPacket_206 : decode b12_readsPacket 206 = .ok (.iconst 1, 1) := by decide +kernel
theorem d12_readsPacket_207 : decode b12_readsPacket 207 = .ok (.iadd, 1) := by decide +kernel
theorem d12_readsPacket_208 : decode b12_readsPacket 208 = .ok (.putfield 326, 3) := by decide +kernel
theorem d12_readsPacket_211 : decode b12_readsPacket 211 = .ok (.aload_n 0, 1) := by decide +kernel
theorem d12_readsPacket_212 : decode b12_readsPacket 212 = .ok (.dup, 1) := by decide +kernel
theorem d12_readsPacket_213 : decode b12_readsPacket 213 = .ok (.getfield 329, 3) := by decide +kernel
theorem d12_readsPacket_216 : decode b12_readsPacket 216 = .ok (.iconst 1, 1) := by decide +kernel
theorem d12_readsPacket_217 : decode b12_readsPacket 217 = .ok (.iadd, 1) := by decide +kernel
theorem d12_readsPacket_218 : decode b12_readsPacket 218 = .ok (.putfield 329, 3) := by decide +kernel
theorem d12_readsPacket_221 : decode b12_readsPacket 221 = .ok (.aload_n 0, 1) := by decide +kernel
theorem d12_readsPacket_222 : decode b12_readsPacket 222 = .ok (.iload_n 2, 1) := by decide +kernel
theorem d12_readsPacket_223 : decode b12_readsPacket 223 = .ok (.putfield 332, 3) := by decide +kernel
theorem d12_readsPacket_226 : decode b12_readsPacket 226 = .ok (.aload_n 0, 1) := by decide +kernel
theorem d12_readsPacket_227 : decode b12_readsPacket 227 = .ok (.invokevirtual 146, 3) := by decide +kernel
theorem d12_readsPacket_230 : decode b12_readsPacket 230 = .ok (.return_, 1) := by decide +kernel
theorem fl_12_326 : Cond.fieldLink cn_12 326 (ft_12 37).1 (ft_12 37).2.1 (ft_12 37).2.2.1 ∈ ce_cm := ce_cm_of (List.mem_of_getElem? (i := 1158) (by decide +kernel)) (by decide +kernel)
theorem gf_12_326 (C : ce_Cx p s m args c meth cc nL ret cn_12 D ad cA B0 (ce_St aK aV B0)) (hH : ce_H D ad cA B0 X s h H locs) (hdg : decode cc pc = .ok (.getfield 326, 3)) (kk : W p l e0 R s m args below meth c H locs cells slots Q (F0 m (pc + 3) ls (.int (h 68 37) :: rest))) : W p l e0 R s m args below meth c H locs cells slots Q (F0 m pc ls (.ref (ad 68) :: rest)) := by
  exact ce_get C hH (k := 68) (ci := 12) (j := 37) (N := 43) (sj := none) (by decide) rfl rfl fw_12 (by decide) fl_12_326 rfl hdg kk
theorem pf_12_326 (C : ce_Cx p s m args c meth cc nL ret cn_12 D ad cA B0 (ce_St aK aV B0)) (hH : ce_H D ad cA B0 X s h H locs) {x : Int32} (hdg : decode cc pc = .ok (.putfield 326, 3)) (kk : ∀ (H1 : Heap) (locs1 : List Loc), ce_H D ad cA B0 X s (hp_up h 68 37 x) H1 locs1 → W p l e0 R s m args below meth c H1 locs1 cells slots Q (F0 m (pc + 3) ls rest)) : W p l e0 R s m args below meth c H locs cells slots Q (F0 m pc ls (.int x :: .ref (ad 68) :: rest)) := by
  exact ce_put C hH (k := 68) (ci := 12) (j := 37) (N := 43) (fy := fy_12) (sj := none) x (by decide) rfl rfl fw_12 fo_12 fn_12 (by decide) fl_12_326 rfl rfl (v := .int x) (by simp [ce_slot, upd]) rfl rfl hdg kk
theorem fl_12_74 : Cond.fieldLink cn_12 74 (ft_12 31).1 (ft_12 31).2.1 (ft_12 31).2.2.1 ∈ ce_cm := ce_cm_of (List.mem_of_getElem? (i := 1152) (by decide +kernel)) (by decide +kernel)
theorem gf_12_74 (C : ce_Cx p s m args c meth cc nL ret cn_12 D ad cA B0 (ce_St aK aV B0)) (hH : ce_H D ad cA B0 X s h H locs) (hdg : decode cc pc = .ok (.getfield 74, 3)) (kk : W p l e0 R s m args below meth c H locs cells slots Q (F0 m (pc + 3) ls (.ref (ad 89) :: rest))) : W p l e0 R s m args below meth c H locs cells slots Q (F0 m pc ls (.ref (ad 68) :: rest)) := by
  exact ce_get C hH (k := 68) (ci := 12) (j := 31) (N := 43) (sj := some (some 89)) (by decide) rfl rfl fw_12 (by decide) fl_12_74 rfl hdg kk
theorem fl_12_329 : Cond.fieldLink cn_12 329 (ft_12 32).1 (ft_12 32).2.1 (ft_12 32).2.2.1 ∈ ce_cm := ce_cm_of (List.mem_of_getElem? (i := 1153) (by decide +kernel)) (by decide +kernel)
theorem gf_12_329 (C : ce_Cx p s m args c meth cc nL ret cn_12 D ad cA B0 (ce_St aK aV B0)) (hH : ce_H D ad cA B0 X s h H locs) (hdg : decode cc pc = .ok (.getfield 329, 3)) (kk : W p l e0 R s m args below meth c H locs cells slots Q (F0 m (pc + 3) ls (.int (h 68 32) :: rest))) : W p l e0 R s m args below meth c H locs cells slots Q (F0 m pc ls (.ref (ad 68) :: rest)) := by
  exact ce_get C hH (k := 68) (ci := 12) (j := 32) (N := 43) (sj := none) (by decide) rfl rfl fw_12 (by decide) fl_12_329 rfl hdg kk
theorem pf_12_329 (C : ce_Cx p s m args c meth cc nL ret cn_12 D ad cA B0 (ce_St aK aV B0)) (hH : ce_H D ad cA B0 X s h H locs) {x : Int32} (hdg : decode cc pc = .ok (.putfield 329, 3)) (kk : ∀ (H1 : Heap) (locs1 : List Loc), ce_H D ad cA B0 X s (hp_up h 68 32 x) H1 locs1 → W p l e0 R s m args below meth c H1 locs1 cells slots Q (F0 m (pc + 3) ls rest)) : W p l e0 R s m args below meth c H locs cells slots Q (F0 m pc ls (.int x :: .ref (ad 68) :: rest)) := by
  exact ce_put C hH (k := 68) (ci := 12) (j := 32) (N := 43) (fy := fy_12) (sj := none) x (by decide) rfl rfl fw_12 fo_12 fn_12 (by decide) fl_12_329 rfl rfl (v := .int x) (by simp [ce_slot, upd]) rfl rfl hdg kk
theorem lc_89 : 89 < 96 ∧ ce_lay 89 = .inl (0, 52) := ⟨by decide, rfl⟩
theorem fl_12_71 : Cond.fieldLink cn_12 71 (ft_12 30).1 (ft_12 30).2.1 (ft_12 30).2.2.1 ∈ ce_cm := ce_cm_of (List.mem_of_getElem? (i := 1151) (by decide +kernel)) (by decide +kernel)
theorem gf_12_71 (C : ce_Cx p s m args c meth cc nL ret cn_12 D ad cA B0 (ce_St aK aV B0)) (hH : ce_H D ad cA B0 X s h H locs) (hdg : decode cc pc = .ok (.getfield 71, 3)) (kk : W p l e0 R s m args below meth c H locs cells slots Q (F0 m (pc + 3) ls (.ref (ad 88) :: rest))) : W p l e0 R s m args below meth c H locs cells slots Q (F0 m pc ls (.ref (ad 68) :: rest)) := by
  exact ce_get C hH (k := 68) (ci := 12) (j := 30) (N := 43) (sj := some (some 88)) (by decide) rfl rfl fw_12 (by decide) fl_12_71 rfl hdg kk
theorem lc_88 : 88 < 96 ∧ ce_lay 88 = .inl (0, 13) := ⟨by decide, rfl⟩
theorem fl_12_86 : Cond.fieldLink cn_12 86 (ft_12 36).1 (ft_12 36).2.1 (ft_12 36).2.2.1 ∈ ce_cm := ce_cm_of (List.mem_of_getElem? (i := 1157) (by decide +kernel)) (by decide +kernel)
theorem gf_12_86 (C : ce_Cx p s m args c meth cc nL ret cn_12 D ad cA B0 (ce_St aK aV B0)) (hH : ce_H D ad cA B0 X s h H locs) (hdg : decode cc pc = .ok (.getfield 86, 3)) (kk : W p l e0 R s m args below meth c H locs cells slots Q (F0 m (pc + 3) ls (.ref (ad 93) :: rest))) : W p l e0 R s m args below meth c H locs cells slots Q (F0 m pc ls (.ref (ad 68) :: rest)) := by
  exact ce_get C hH (k := 68) (ci := 12) (j := 36) (N := 43) (sj := some (some 93)) (by decide) rfl rfl fw_12 (by decide) fl_12_86 rfl hdg kk
theorem lc_93 : 93 < 96 ∧ ce_lay 93 = .inl (0, 13) := ⟨by decide, rfl⟩
theorem fl_12_332 : Cond.fieldLink cn_12 332 (ft_12 38).1 (ft_12 38).2.1 (ft_12 38).2.2.1 ∈ ce_cm := ce_cm_of (List.mem_of_getElem? (i := 1159) (by decide +kernel)) (by decide +kernel)
theorem gf_12_332 (C : ce_Cx p s m args c meth cc nL ret cn_12 D ad cA B0 (ce_St aK aV B0)) (hH : ce_H D ad cA B0 X s h H locs) (hdg : decode cc pc = .ok (.getfield 332, 3)) (kk : W p l e0 R s m args below meth c H locs cells slots Q (F0 m (pc + 3) ls (.int (h 68 38) :: rest))) : W p l e0 R s m args below meth c H locs cells slots Q (F0 m pc ls (.ref (ad 68) :: rest)) := by
  exact ce_get C hH (k := 68) (ci := 12) (j := 38) (N := 43) (sj := none) (by decide) rfl rfl fw_12 (by decide) fl_12_332 rfl hdg kk
theorem pf_12_332 (C : ce_Cx p s m args c meth cc nL ret cn_12 D ad cA B0 (ce_St aK aV B0)) (hH : ce_H D ad cA B0 X s h H locs) {x : Int32} (hz : x = 0 ∨ x = 1) (hdg : decode cc pc = .ok (.putfield 332, 3)) (kk : ∀ (H1 : Heap) (locs1 : List Loc), ce_H D ad cA B0 X s (hp_up h 68 38 x) H1 locs1 → W p l e0 R s m args below meth c H1 locs1 cells slots Q (F0 m (pc + 3) ls rest)) : W p l e0 R s m args below meth c H locs cells slots Q (F0 m pc ls (.int x :: .ref (ad 68) :: rest)) := by
  exact ce_put C hH (k := 68) (ci := 12) (j := 38) (N := 43) (fy := fy_12) (sj := none) x (by decide) rfl rfl fw_12 fo_12 fn_12 (by decide) fl_12_332 rfl rfl (v := .int x) (by simp [ce_slot, upd]) (by rcases hz with rfl | rfl <;> rfl) (by rcases hz with rfl | rfl <;> rfl) hdg kk
theorem mc12_lettersHere : Cond.code y12_lettersHere b12_lettersHere 4 (some .int) ∈ ce_cm := ce_cm_of (List.mem_of_getElem? (i := 1565) (by decide +kernel)) (by decide +kernel)
theorem ml_12_322 : Cond.methodLink cn_12 322 y12_lettersHere ∈ ce_cm := ce_cm_of (List.mem_of_getElem? (i := 1562) (by decide +kernel)) (by decide +kernel)
theorem mi12_lettersHere : Cond.instanceMethod y12_lettersHere ∈ ce_cm := ce_cm_of (List.mem_of_getElem? (i := 1564) (by decide +kernel)) (by decide +kernel)
theorem ms12_lettersHere : Cond.selects cn_12 y12_lettersHere y12_lettersHere ∈ ce_cm := ce_cm_of (List.mem_of_getElem? (i := 79) (by decide +kernel)) (by decide +kernel)
theorem mc12_isPacket : Cond.code y12_isPacket b12_isPacket 4 (some .boolean) ∈ ce_cm := ce_cm_of (List.mem_of_getElem? (i := 1561) (by decide +kernel)) (by decide +kernel)
theorem ml_12_319 : Cond.methodLink cn_12 319 y12_isPacket ∈ ce_cm := ce_cm_of (List.mem_of_getElem? (i := 1558) (by decide +kernel)) (by decide +kernel)
theorem mi12_isPacket : Cond.instanceMethod y12_isPacket ∈ ce_cm := ce_cm_of (List.mem_of_getElem? (i := 1560) (by decide +kernel)) (by decide +kernel)
theorem ms12_isPacket : Cond.selects cn_12 y12_isPacket y12_isPacket ∈ ce_cm := ce_cm_of (List.mem_of_getElem? (i := 78) (by decide +kernel)) (by decide +kernel)
def f12_readsPacket_b97 (F : Nat) (x1 : Int32) (x2 : Int32) (x3 : Int32) (h : Hp) : Option ((Int32 × Hp) ⊕ (Hp)) :=
  if (h 68 7) ≤ x3 then
    some (.inr h)
  else
    if ce_in x3 700 = true then
      if (h 72 (x3).toNatClampNeg) = (110 : Int32) then
        if ce_in ((((4 : Int32) * (h 68 32)) + x3) - (h 68 8)) 52 = true then
          ce_nm (hp_up h 89 (((((4 : Int32) * (h 68 32)) + x3) - (h 68 8))).toNatClampNeg (0 : Int32)) (fun h_153 =>
            some (.inl (x3 + (1 : Int32), h_153)))
        else none
      else
        if ce_in x3 700 = true then
          if (h 72 (x3).toNatClampNeg) = (112 : Int32) then
            if ce_in ((((4 : Int32) * (h 68 32)) + x3) - (h 68 8)) 52 = true then
              ce_nm (hp_up h 89 (((((4 : Int32) * (h 68 32)) + x3) - (h 68 8))).toNatClampNeg (1 : Int32)) (fun h_153 =>
                some (.inl (x3 + (1 : Int32), h_153)))
            else none
          else
            if ce_in ((((4 : Int32) * (h 68 32)) + x3) - (h 68 8)) 52 = true then
              ce_nm (hp_up h 89 (((((4 : Int32) * (h 68 32)) + x3) - (h 68 8))).toNatClampNeg (2 : Int32)) (fun h_153 =>
                some (.inl (x3 + (1 : Int32), h_153)))
            else none
        else none
    else none
set_option maxRecDepth 20000 in
theorem l12_readsPacket_97 (C : ce_Cx p s m args c meth b12_readsPacket 4 none cn_12 D ad cA B0 (ce_St aK aV B0)) (F : Nat) (x1 : Int32) (x2 : Int32)  (r : Hp) (g : (Hp) → Option (Hp)) (hx : ∀  (h : Hp) (H : Heap) (locs : List Loc) (ls : Array Slot), ce_H D ad cA B0 [] s h H locs → lv_has ls 4 [(0, .ref (ad 68)), (1, .int x1), (2, .int x2)] → g h = some r → W p l e0 { frames := 3, cells := 0, slots := 0, locals := 67 } s m args below meth c H locs 0 0 (MQ below (ce_Q D ad cA B0 (ce_St aK aV B0) none r) args s 0 0 (fun q => B0 ≤ q)) (F0 m 160 ls [])) : ∀ (n : Nat) (x3 : Int32) (h : Hp) (H : Heap) (locs : List Loc) (ls : Array Slot), ce_H D ad cA B0 [] s h H locs → lv_has ls 4 [(0, .ref (ad 68)), (1, .int x1), (2, .int x2), (3, .int x3)] → Option.bind (ce_it (fun (st : Int32 × Hp) => f12_readsPacket_b97 F x1 x2 st.1 st.2) n (x3, h)) g = some r → W p l e0 { frames := 3, cells := 0, slots := 0, locals := 67 } s m args below meth c H locs 0 0 (MQ below (ce_Q D ad cA B0 (ce_St aK aV B0) none r) args s 0 0 (fun q => B0 ≤ q)) (F0 m 97 ls []) := by
  intro n
  induction n with
  | zero =>
    intro x3 h H locs ls hH hl e
    exact absurd e (fun z => by cases z)
  | succ n ih =>
    intro x3 h H locs ls hH hl e
    have hx9 := C.1
    have hb := C.2.1
    have e : Option.bind (f12_readsPacket_b97 F x1 x2 x3 h) _ = some r := ce_it_bd e
    unfold f12_readsPacket_b97 at e
    refine lv_iload_n hx9 hb d12_readsPacket_97 rfl (lv_at hl 3 rfl) ?_
    refine lv_aload_n hx9 hb d12_readsPacket_98 rfl (lv_at hl 0 rfl) ?_
    refine gf_12_102 C hH d12_readsPacket_99 ?_
    refine lv_icmp_ge (tgt := 160) hx9 hb d12_readsPacket_102 (by decide) (fun hc102 => ?_) (fun hc102 => ?_)
    · have e := ce_if1 e hc102
      exact hx  h _ _ _ hH (lv_sub hl [0, 1, 2] rfl) e
    · have e := ce_if0 e hc102
      refine lv_aload_n hx9 hb d12_readsPacket_105 rfl (lv_at hl 0 rfl) ?_
      refine gf_12_74 C hH d12_readsPacket_106 ?_
      refine lv_iconst (v := (4 : Int32)) hx9 hb d12_readsPacket_109 (by decide) ?_
      refine lv_aload_n hx9 hb d12_readsPacket_110 rfl (lv_at hl 0 rfl) ?_
      refine gf_12_329 C hH d12_readsPacket_111 ?_
      refine lv_imul hx9 hb d12_readsPacket_114 ?_
      refine lv_iload_n hx9 hb d12_readsPacket_115 rfl (lv_at hl 3 rfl) ?_
      refine lv_iadd hx9 hb d12_readsPacket_116 ?_
      refine lv_aload_n hx9 hb d12_readsPacket_117 rfl (lv_at hl 0 rfl) ?_
      refine gf_12_109 C hH d12_readsPacket_118 ?_
      refine lv_isub hx9 hb d12_readsPacket_121 ?_
      refine lv_aload_n hx9 hb d12_readsPacket_122 rfl (lv_at hl 0 rfl) ?_
      refine gf_12_19 C hH d12_readsPacket_123 ?_
      refine lv_iload_n hx9 hb d12_readsPacket_126 rfl (lv_at hl 3 rfl) ?_
      obtain ⟨hi127, e⟩ := ce_gd e
      refine ce_iald C hH lc_72.1 lc_72.2 (ce_in_vp hi127) d12_readsPacket_127 ?_
      refine lv_bipush (v := (110 : Int32)) hx9 hb d12_readsPacket_128 (by decide) ?_
      refine lv_icmp_ne (tgt := 137) hx9 hb d12_readsPacket_130 (by decide) (fun hc130 => ?_) (fun hc130 => ?_)
      · have e := ce_if0 e hc130
        refine lv_aload_n hx9 hb d12_readsPacket_137 rfl (lv_at hl 0 rfl) ?_
        refine gf_12_19 C hH d12_readsPacket_138 ?_
        refine lv_iload_n hx9 hb d12_readsPacket_141 rfl (lv_at hl 3 rfl) ?_
        obtain ⟨hi142, e⟩ := ce_gd e
        refine ce_iald C hH lc_72.1 lc_72.2 (ce_in_vp hi142) d12_readsPacket_142 ?_
        refine lv_bipush (v := (112 : Int32)) hx9 hb d12_readsPacket_143 (by decide) ?_
        refine lv_icmp_ne (tgt := 152) hx9 hb d12_readsPacket_145 (by decide) (fun hc145 => ?_) (fun hc145 => ?_)
        · have e := ce_if0 e hc145
          refine lv_iconst (v := (2 : Int32)) hx9 hb d12_readsPacket_152 (by decide) ?_
          obtain ⟨hi153, e⟩ := ce_gd e
          refine ce_iast C hH lc_89.1 lc_89.2 (ce_in_vp hi153) d12_readsPacket_153 (fun H locs hH => ?_)
          obtain ⟨h_153, eh_153, e⟩ := ce_nmE e
          rw [← eh_153] at hH
          refine lv_iinc (v := x3 + (1 : Int32)) (lv' := [(3, .int (x3 + (1 : Int32))), (0, .ref (ad 68)), (1, .int x1), (2, .int x2)]) hx9 hb d12_readsPacket_154 hl (k := 3) rfl rfl (by decide) rfl (fun ls hl => ?_)
          refine lv_goto (tgt := 97) hx9 hb d12_readsPacket_157 (by decide) ?_
          exact ih (x3 + (1 : Int32)) h_153 _ _ _ hH (lv_sub hl [1, 2, 3, 0] rfl) e
        · have e := ce_if1 e hc145
          refine lv_iconst (v := (1 : Int32)) hx9 hb d12_readsPacket_148 (by decide) ?_
          refine lv_goto (tgt := 153) hx9 hb d12_readsPacket_149 (by decide) ?_
          obtain ⟨hi153, e⟩ := ce_gd e
          refine ce_iast C hH lc_89.1 lc_89.2 (ce_in_vp hi153) d12_readsPacket_153 (fun H locs hH => ?_)
          obtain ⟨h_153, eh_153, e⟩ := ce_nmE e
          rw [← eh_153] at hH
          refine lv_iinc (v := x3 + (1 : Int32)) (lv' := [(3, .int (x3 + (1 : Int32))), (0, .ref (ad 68)), (1, .int x1), (2, .int x2)]) hx9 hb d12_readsPacket_154 hl (k := 3) rfl rfl (by decide) rfl (fun ls hl => ?_)
          refine lv_goto (tgt := 97) hx9 hb d12_readsPacket_157 (by decide) ?_
          exact ih (x3 + (1 : Int32)) h_153 _ _ _ hH (lv_sub hl [1, 2, 3, 0] rfl) e
      · have e := ce_if1 e hc130
        refine lv_iconst (v := (0 : Int32)) hx9 hb d12_readsPacket_133 (by decide) ?_
        refine lv_goto (tgt := 153) hx9 hb d12_readsPacket_134 (by decide) ?_
        obtain ⟨hi153, e⟩ := ce_gd e
        refine ce_iast C hH lc_89.1 lc_89.2 (ce_in_vp hi153) d12_readsPacket_153 (fun H locs hH => ?_)
        obtain ⟨h_153, eh_153, e⟩ := ce_nmE e
        rw [← eh_153] at hH
        refine lv_iinc (v := x3 + (1 : Int32)) (lv' := [(3, .int (x3 + (1 : Int32))), (0, .ref (ad 68)), (1, .int x1), (2, .int x2)]) hx9 hb d12_readsPacket_154 hl (k := 3) rfl rfl (by decide) rfl (fun ls hl => ?_)
        refine lv_goto (tgt := 97) hx9 hb d12_readsPacket_157 (by decide) ?_
        exact ih (x3 + (1 : Int32)) h_153 _ _ _ hH (lv_sub hl [1, 2, 3, 0] rfl) e
def f12_readsPacket_j84 (F : Nat) (x1 : Int32) (x2 : Int32) (h : Hp) : Option (Hp) :=
  if (h 68 11) = 0 then
    Option.bind (ce_it (fun (st : Int32 × Hp) => f12_readsPacket_b97 F x1 x2 st.1 st.2) F (h 68 8, h)) (fun o97 =>
      if ce_in (o97 68 32) 13 = true then
        ce_nm (hp_up o97 88 ((o97 68 32)).toNatClampNeg ((o97 68 7) - (o97 68 8))) (fun h_177 =>
          ce_nm (hp_up h_177 68 37 ((h_177 68 37) - x1)) (fun h_185 =>
            if ce_in (h_185 68 37) 13 = true then
              ce_nm (hp_up h_185 93 ((h_185 68 37)).toNatClampNeg (h_185 68 32)) (fun h_200 =>
                ce_nm (hp_up h_200 68 37 ((h_200 68 37) + (1 : Int32))) (fun h_208 =>
                  ce_nm (hp_up h_208 68 32 ((h_208 68 32) + (1 : Int32))) (fun h_218 =>
                    if x2 = 0 ∨ x2 = 1 then
                      ce_nm (hp_up h_218 68 38 x2) (fun h_223 =>
                        Option.bind (f12_next F  h_223) (fun o227 =>
                          some o227))
                    else none)))
            else none))
      else none)
  else
    some h
set_option maxRecDepth 20000 in
theorem j12_readsPacket_84 (C : ce_Cx p s m args c meth b12_readsPacket 4 none cn_12 D ad cA B0 (ce_St aK aV B0)) (F : Nat) (x1 : Int32) (x2 : Int32)  (r : Hp) (h : Hp) (H : Heap) (locs : List Loc) (ls : Array Slot) (hH : ce_H D ad cA B0 [] s h H locs) (hl : lv_has ls 4 [(0, .ref (ad 68)), (1, .int x1), (2, .int x2)]) (e : Option.bind (f12_readsPacket_j84 F x1 x2 h) some = some r) : W p l e0 { frames := 3, cells := 0, slots := 0, locals := 67 } s m args below meth c H locs 0 0 (MQ below (ce_Q D ad cA B0 (ce_St aK aV B0) none r) args s 0 0 (fun q => B0 ≤ q)) (F0 m 84 ls []) := by
  have hx9 := C.1
  have hb := C.2.1
  unfold f12_readsPacket_j84 at e
  refine lv_aload_n hx9 hb d12_readsPacket_84 rfl (lv_at hl 0 rfl) ?_
  refine gf_12_125 C hH d12_readsPacket_85 ?_
  refine lv_if_eq (tgt := 92) hx9 hb d12_readsPacket_88 (by decide) (fun hc88 => ?_) (fun hc88 => ?_)
  · have e := ce_if1 e hc88
    refine lv_aload_n hx9 hb d12_readsPacket_92 rfl (lv_at hl 0 rfl) ?_
    refine gf_12_109 C hH d12_readsPacket_93 ?_
    refine lv_istore_n (lv' := [(3, .int (h 68 8)), (0, .ref (ad 68)), (1, .int x1), (2, .int x2)]) hx9 hb d12_readsPacket_96 rfl hl (by decide) rfl (fun ls hl => ?_)
    refine l12_readsPacket_97 C F x1 x2  r _ (fun  h_97 H locs ls hH hl e => ?_) F (h 68 8) h _ _ _ hH (lv_sub hl [1, 2, 3, 0] rfl) (ce_as e)
    try dsimp only at e
    refine lv_aload_n hx9 hb d12_readsPacket_160 rfl (lv_at hl 0 rfl) ?_
    refine gf_12_71 C hH d12_readsPacket_161 ?_
    refine lv_aload_n hx9 hb d12_readsPacket_164 rfl (lv_at hl 0 rfl) ?_
    refine gf_12_329 C hH d12_readsPacket_165 ?_
    refine lv_aload_n hx9 hb d12_readsPacket_168 rfl (lv_at hl 0 rfl) ?_
    refine gf_12_102 C hH d12_readsPacket_169 ?_
    refine lv_aload_n hx9 hb d12_readsPacket_172 rfl (lv_at hl 0 rfl) ?_
    refine gf_12_109 C hH d12_readsPacket_173 ?_
    refine lv_isub hx9 hb d12_readsPacket_176 ?_
    obtain ⟨hi177, e⟩ := ce_gd e
    refine ce_iast C hH lc_88.1 lc_88.2 (ce_in_vp hi177) d12_readsPacket_177 (fun H locs hH => ?_)
    obtain ⟨h_177, eh_177, e⟩ := ce_nmE e
    rw [← eh_177] at hH
    refine lv_aload_n hx9 hb d12_readsPacket_178 rfl (lv_at hl 0 rfl) ?_
    refine lv_dup hx9 hb d12_readsPacket_179 rfl ?_
    refine gf_12_326 C hH d12_readsPacket_180 ?_
    refine lv_iload_n hx9 hb d12_readsPacket_183 rfl (lv_at hl 1 rfl) ?_
    refine lv_isub hx9 hb d12_readsPacket_184 ?_
    refine pf_12_326 C hH d12_readsPacket_185 (fun H locs hH => ?_)
    obtain ⟨h_185, eh_185, e⟩ := ce_nmE e
    rw [← eh_185] at hH
    refine lv_aload_n hx9 hb d12_readsPacket_188 rfl (lv_at hl 0 rfl) ?_
    refine gf_12_86 C hH d12_readsPacket_189 ?_
    refine lv_aload_n hx9 hb d12_readsPacket_192 rfl (lv_at hl 0 rfl) ?_
    refine gf_12_326 C hH d12_readsPacket_193 ?_
    refine lv_aload_n hx9 hb d12_readsPacket_196 rfl (lv_at hl 0 rfl) ?_
    refine gf_12_329 C hH d12_readsPacket_197 ?_
    obtain ⟨hi200, e⟩ := ce_gd e
    refine ce_iast C hH lc_93.1 lc_93.2 (ce_in_vp hi200) d12_readsPacket_200 (fun H locs hH => ?_)
    obtain ⟨h_200, eh_200, e⟩ := ce_nmE e
    rw [← eh_200] at hH
    refine lv_aload_n hx9 hb d12_readsPacket_201 rfl (lv_at hl 0 rfl) ?_
    refine lv_dup hx9 hb d12_readsPacket_202 rfl ?_
    refine gf_12_326 C hH d12_readsPacket_203 ?_
    refine lv_iconst (v := (1 : Int32)) hx9 hb d12_readsPacket_206 (by decide) ?_
    refine lv_iadd hx9 hb d12_readsPacket_207 ?_
    refine pf_12_326 C hH d12_readsPacket_208 (fun H locs hH => ?_)
    obtain ⟨h_208, eh_208, e⟩ := ce_nmE e
    rw [← eh_208] at hH
    refine lv_aload_n hx9 hb d12_readsPacket_211 rfl (lv_at hl 0 rfl) ?_
    refine lv_dup hx9 hb d12_readsPacket_212 rfl ?_
    refine gf_12_329 C hH d12_readsPacket_213 ?_
    refine lv_iconst (v := (1 : Int32)) hx9 hb d12_readsPacket_216 (by decide) ?_
    refine lv_iadd hx9 hb d12_readsPacket_217 ?_
    refine pf_12_329 C hH d12_readsPacket_218 (fun H locs hH => ?_)
    obtain ⟨h_218, eh_218, e⟩ := ce_nmE e
    rw [← eh_218] at hH
    refine lv_aload_n hx9 hb d12_readsPacket_221 rfl (lv_at hl 0 rfl) ?_
    refine lv_iload_n hx9 hb d12_readsPacket_222 rfl (lv_at hl 2 rfl) ?_
    obtain ⟨hz_223, e⟩ := ce_gd e
    refine pf_12_332 C hH hz_223 d12_readsPacket_223 (fun H locs hH => ?_)
    obtain ⟨h_223, eh_223, e⟩ := ce_nmE e
    rw [← eh_223] at hH
    refine lv_aload_n hx9 hb d12_readsPacket_226 rfl (lv_at hl 0 rfl) ?_
    obtain ⟨o227, eo227, e⟩ := ce_bd e
    refine ce_callV (As := []) (rest := []) C (ce_sok aK aV B0) hH (c12_next l D ad cA aK aV B0 C.2.2.2.2.2.2.1 F   h_223 o227 eo227) lo_68.1 lo_68.2.choose_spec rfl rfl mc12_next ml_12_146 mi12_next ms12_next mI_12 (n := 0) (by decide) rfl ⟨Nat.le_of_ble_eq_true rfl, Nat.le_of_ble_eq_true rfl⟩ ⟨Nat.le_of_ble_eq_true rfl, Nat.le_of_ble_eq_true rfl⟩ hl.1 rfl (Nat.le_of_ble_eq_true rfl) d12_readsPacket_227 (fun H locs hH => ?_)
    refine W.eq (g2 := F0 m 230 ls []) rfl ?_
    exact ce_vret C (ce_sok aK aV B0) hH (Option.some.inj e) d12_readsPacket_230
  · have e := ce_if0 e hc88
    exact ce_vret C (ce_sok aK aV B0) hH (Option.some.inj e) d12_readsPacket_91
def f12_readsPacket_j55 (F : Nat) (x1 : Int32) (x2 : Int32) (h : Hp) : Option (Hp) :=
  Option.bind (f12_faults F (2 : Int32) h) (fun o57 =>
    f12_readsPacket_j84 F x1 x2 o57)
set_option maxRecDepth 20000 in
theorem j12_readsPacket_55 (C : ce_Cx p s m args c meth b12_readsPacket 4 none cn_12 D ad cA B0 (ce_St aK aV B0)) (F : Nat) (x1 : Int32) (x2 : Int32)  (r : Hp) (h : Hp) (H : Heap) (locs : List Loc) (ls : Array Slot) (hH : ce_H D ad cA B0 [] s h H locs) (hl : lv_has ls 4 [(0, .ref (ad 68)), (1, .int x1), (2, .int x2)]) (e : Option.bind (f12_readsPacket_j55 F x1 x2 h) some = some r) : W p l e0 { frames := 3, cells := 0, slots := 0, locals := 67 } s m args below meth c H locs 0 0 (MQ below (ce_Q D ad cA B0 (ce_St aK aV B0) none r) args s 0 0 (fun q => B0 ≤ q)) (F0 m 55 ls []) := by
  have hx9 := C.1
  have hb := C.2.1
  unfold f12_readsPacket_j55 at e
  refine lv_aload_n hx9 hb d12_readsPacket_55 rfl (lv_at hl 0 rfl) ?_
  refine lv_iconst (v := (2 : Int32)) hx9 hb d12_readsPacket_56 (by decide) ?_
  obtain ⟨o57, eo57, e⟩ := ce_bd e
  refine ce_callV (As := [.int (2 : Int32)]) (rest := []) C (ce_sok aK aV B0) hH (c12_faults l D ad cA aK aV B0 C.2.2.2.2.2.2.1 F (2 : Int32)  h o57 eo57) lo_68.1 lo_68.2.choose_spec rfl rfl mc12_faults ml_12_142 mi12_faults ms12_faults mI_12 (n := 1) (by decide) rfl ⟨Nat.le_of_ble_eq_true rfl, Nat.le_of_ble_eq_true rfl⟩ ⟨Nat.le_of_ble_eq_true rfl, Nat.le_of_ble_eq_true rfl⟩ hl.1 rfl (Nat.le_of_ble_eq_true rfl) d12_readsPacket_57 (fun H locs hH => ?_)
  refine W.eq (g2 := F0 m 60 ls []) rfl ?_
  refine lv_goto (tgt := 84) hx9 hb d12_readsPacket_60 (by decide) ?_
  exact j12_readsPacket_84 C F x1 x2  r o57 _ _ _ hH (lv_sub hl [0, 1, 2] rfl) e
def f12_readsPacket_j79 (F : Nat) (x1 : Int32) (x2 : Int32) (h : Hp) : Option (Hp) :=
  Option.bind (f12_faults F (3 : Int32) h) (fun o81 =>
    f12_readsPacket_j84 F x1 x2 o81)
set_option maxRecDepth 20000 in
theorem j12_readsPacket_79 (C : ce_Cx p s m args c meth b12_readsPacket 4 none cn_12 D ad cA B0 (ce_St aK aV B0)) (F : Nat) (x1 : Int32) (x2 : Int32)  (r : Hp) (h : Hp) (H : Heap) (locs : List Loc) (ls : Array Slot) (hH : ce_H D ad cA B0 [] s h H locs) (hl : lv_has ls 4 [(0, .ref (ad 68)), (1, .int x1), (2, .int x2)]) (e : Option.bind (f12_readsPacket_j79 F x1 x2 h) some = some r) : W p l e0 { frames := 3, cells := 0, slots := 0, locals := 67 } s m args below meth c H locs 0 0 (MQ below (ce_Q D ad cA B0 (ce_St aK aV B0) none r) args s 0 0 (fun q => B0 ≤ q)) (F0 m 79 ls []) := by
  have hx9 := C.1
  have hb := C.2.1
  unfold f12_readsPacket_j79 at e
  refine lv_aload_n hx9 hb d12_readsPacket_79 rfl (lv_at hl 0 rfl) ?_
  refine lv_iconst (v := (3 : Int32)) hx9 hb d12_readsPacket_80 (by decide) ?_
  obtain ⟨o81, eo81, e⟩ := ce_bd e
  refine ce_callV (As := [.int (3 : Int32)]) (rest := []) C (ce_sok aK aV B0) hH (c12_faults l D ad cA aK aV B0 C.2.2.2.2.2.2.1 F (3 : Int32)  h o81 eo81) lo_68.1 lo_68.2.choose_spec rfl rfl mc12_faults ml_12_142 mi12_faults ms12_faults mI_12 (n := 1) (by decide) rfl ⟨Nat.le_of_ble_eq_true rfl, Nat.le_of_ble_eq_true rfl⟩ ⟨Nat.le_of_ble_eq_true rfl, Nat.le_of_ble_eq_true rfl⟩ hl.1 rfl (Nat.le_of_ble_eq_true rfl) d12_readsPacket_81 (fun H locs hH => ?_)
  refine W.eq (g2 := F0 m 84 ls []) rfl ?_
  exact j12_readsPacket_84 C F x1 x2  r o81 _ _ _ hH (lv_sub hl [0, 1, 2] rfl) e
def f12_readsPacket_j63 (F : Nat) (x1 : Int32) (x2 : Int32) (h : Hp) : Option (Hp) :=
  if (h 68 32) = (12 : Int32) then
    f12_readsPacket_j79 F x1 x2 h
  else
    if (h 68 38) = 0 then
      f12_readsPacket_j84 F x1 x2 h
    else
      f12_readsPacket_j79 F x1 x2 h
set_option maxRecDepth 20000 in
theorem j12_readsPacket_63 (C : ce_Cx p s m args c meth b12_readsPacket 4 none cn_12 D ad cA B0 (ce_St aK aV B0)) (F : Nat) (x1 : Int32) (x2 : Int32)  (r : Hp) (h : Hp) (H : Heap) (locs : List Loc) (ls : Array Slot) (hH : ce_H D ad cA B0 [] s h H locs) (hl : lv_has ls 4 [(0, .ref (ad 68)), (1, .int x1), (2, .int x2)]) (e : Option.bind (f12_readsPacket_j63 F x1 x2 h) some = some r) : W p l e0 { frames := 3, cells := 0, slots := 0, locals := 67 } s m args below meth c H locs 0 0 (MQ below (ce_Q D ad cA B0 (ce_St aK aV B0) none r) args s 0 0 (fun q => B0 ≤ q)) (F0 m 63 ls []) := by
  have hx9 := C.1
  have hb := C.2.1
  unfold f12_readsPacket_j63 at e
  refine lv_aload_n hx9 hb d12_readsPacket_63 rfl (lv_at hl 0 rfl) ?_
  refine gf_12_329 C hH d12_readsPacket_64 ?_
  refine lv_bipush (v := (12 : Int32)) hx9 hb d12_readsPacket_67 (by decide) ?_
  refine lv_icmp_eq (tgt := 79) hx9 hb d12_readsPacket_69 (by decide) (fun hc69 => ?_) (fun hc69 => ?_)
  · have e := ce_if1 e hc69
    exact j12_readsPacket_79 C F x1 x2  r h _ _ _ hH (lv_sub hl [0, 1, 2] rfl) e
  · have e := ce_if0 e hc69
    refine lv_aload_n hx9 hb d12_readsPacket_72 rfl (lv_at hl 0 rfl) ?_
    refine gf_12_332 C hH d12_readsPacket_73 ?_
    refine lv_if_eq (tgt := 84) hx9 hb d12_readsPacket_76 (by decide) (fun hc76 => ?_) (fun hc76 => ?_)
    · have e := ce_if1 e hc76
      exact j12_readsPacket_84 C F x1 x2  r h _ _ _ hH (lv_sub hl [0, 1, 2] rfl) e
    · have e := ce_if0 e hc76
      exact j12_readsPacket_79 C F x1 x2  r h _ _ _ hH (lv_sub hl [0, 1, 2] rfl) e
def f12_readsPacket_j34 (F : Nat) (x1 : Int32) (s0 : Int32) (h : Hp) : Option (Hp) :=
  if (h 68 37) < x1 then
    f12_readsPacket_j55 F x1 s0 h
  else
    if s0 = 0 then
      f12_readsPacket_j63 F x1 s0 h
    else
      if (h 68 37) ≤ x1 then
        f12_readsPacket_j63 F x1 s0 h
      else
        f12_readsPacket_j55 F x1 s0 h
set_option maxRecDepth 20000 in
theorem j12_readsPacket_34 (C : ce_Cx p s m args c meth b12_readsPacket 4 none cn_12 D ad cA B0 (ce_St aK aV B0)) (F : Nat) (x1 : Int32) (s0 : Int32)  (r : Hp) (h : Hp) (H : Heap) (locs : List Loc) (ls : Array Slot) (hH : ce_H D ad cA B0 [] s h H locs) (hl : lv_has ls 4 [(0, .ref (ad 68)), (1, .int x1)]) (e : Option.bind (f12_readsPacket_j34 F x1 s0 h) some = some r) : W p l e0 { frames := 3, cells := 0, slots := 0, locals := 67 } s m args below meth c H locs 0 0 (MQ below (ce_Q D ad cA B0 (ce_St aK aV B0) none r) args s 0 0 (fun q => B0 ≤ q)) (F0 m 34 ls [.int s0]) := by
  have hx9 := C.1
  have hb := C.2.1
  unfold f12_readsPacket_j34 at e
  refine lv_istore_n (lv' := [(2, .int s0), (0, .ref (ad 68)), (1, .int x1)]) hx9 hb d12_readsPacket_34 rfl hl (by decide) rfl (fun ls hl => ?_)
  refine lv_iload_n hx9 hb d12_readsPacket_35 rfl (lv_at hl 2 rfl) ?_
  refine lv_aload_n hx9 hb d12_readsPacket_36 rfl (lv_at hl 1 rfl) ?_
  refine gf_12_326 C hH d12_readsPacket_37 ?_
  refine lv_icmp_gt (tgt := 55) hx9 hb d12_readsPacket_40 (by decide) (fun hc40 => ?_) (fun hc40 => ?_)
  · have e := ce_if1 e hc40
    exact j12_readsPacket_55 C F x1 s0  r h _ _ _ hH (lv_sub hl [1, 2, 0] rfl) e
  · have e := ce_if0 e hc40
    refine lv_iload_n hx9 hb d12_readsPacket_43 rfl (lv_at hl 0 rfl) ?_
    refine lv_if_eq (tgt := 63) hx9 hb d12_readsPacket_44 (by decide) (fun hc44 => ?_) (fun hc44 => ?_)
    · have e := ce_if1 e hc44
      exact j12_readsPacket_63 C F x1 s0  r h _ _ _ hH (lv_sub hl [1, 2, 0] rfl) e
    · have e := ce_if0 e hc44
      refine lv_iload_n hx9 hb d12_readsPacket_47 rfl (lv_at hl 2 rfl) ?_
      refine lv_aload_n hx9 hb d12_readsPacket_48 rfl (lv_at hl 1 rfl) ?_
      refine gf_12_326 C hH d12_readsPacket_49 ?_
      refine lv_icmp_ge (tgt := 63) hx9 hb d12_readsPacket_52 (by decide) (fun hc52 => ?_) (fun hc52 => ?_)
      · have e := ce_if1 e hc52
        exact j12_readsPacket_63 C F x1 s0  r h _ _ _ hH (lv_sub hl [1, 2, 0] rfl) e
      · have e := ce_if0 e hc52
        exact j12_readsPacket_55 C F x1 s0  r h _ _ _ hH (lv_sub hl [1, 2, 0] rfl) e
def f12_readsPacket (F : Nat)  (h : Hp) : Option (Hp) :=
  Option.bind (f12_isPacket F  h) (fun o1 =>
    if o1.1 = 0 then
      Option.bind (f12_faults F (1 : Int32) o1.2) (fun o9 =>
        some o9)
    else
      Option.bind (f12_lettersHere F (99 : Int32) o1.2) (fun o16 =>
        Option.bind (f12_lettersHere F (112 : Int32) o16.2) (fun o23 =>
          if o23.1 = 0 then
            f12_readsPacket_j34 F o16.1 (1 : Int32) o23.2
          else
            f12_readsPacket_j34 F o16.1 (0 : Int32) o23.2)))
set_option maxRecDepth 20000 in
theorem c12_readsPacket (l : Launch) (D : va_G) (ad : Nat → Nat) (cA : Nat → ClassId) (aK aV : Nat → Nat) (B0 : Nat) (hA : ce_Ad ad B0) (F : Nat)   (h : Hp) (r : Hp) (e : f12_readsPacket F  h = some r) : ce_Ct l D ad cA B0 (ce_St aK aV B0) y12_readsPacket b12_readsPacket 4 none 3 67 0 0 [.ref (ad 68)] h none r := by
  refine ce_enter hA (by decide) rfl (Nat.le_of_ble_eq_true rfl) (fun p e0 s m below meth c ls C hH hl => ?_)
  have hl : lv_has ls 4 [(0, .ref (ad 68))] := hl
  have hx := C.1
  have hb := C.2.1
  have e : Option.bind _ some = some r := (congrArg (fun z => Option.bind z some) e).trans rfl
  unfold f12_readsPacket at e
  refine lv_aload_n hx hb d12_readsPacket_0 rfl (lv_at hl 0 rfl) ?_
  obtain ⟨o1, eo1, e⟩ := ce_bd e
  refine ce_callV (As := []) (rest := []) C (ce_sok aK aV B0) hH (c12_isPacket l D ad cA aK aV B0 C.2.2.2.2.2.2.1 F   h o1 eo1) lo_68.1 lo_68.2.choose_spec rfl rfl mc12_isPacket ml_12_319 mi12_isPacket ms12_isPacket mI_12 (n := 0) (by decide) rfl ⟨Nat.le_of_ble_eq_true rfl, Nat.le_of_ble_eq_true rfl⟩ ⟨Nat.le_of_ble_eq_true rfl, Nat.le_of_ble_eq_true rfl⟩ hl.1 rfl (Nat.le_of_ble_eq_true rfl) d12_readsPacket_1 (fun H locs hH => ?_)
  refine W.eq (g2 := F0 m 4 ls [.int o1.1]) rfl ?_
  refine lv_if_ne (tgt := 13) hx hb d12_readsPacket_4 (by decide) (fun hc4 => ?_) (fun hc4 => ?_)
  · have e := ce_if0 e hc4
    refine lv_aload_n hx hb d12_readsPacket_13 rfl (lv_at hl 0 rfl) ?_
    refine lv_bipush (v := (99 : Int32)) hx hb d12_readsPacket_14 (by decide) ?_
    obtain ⟨o16, eo16, e⟩ := ce_bd e
    refine ce_callV (As := [.int (99 : Int32)]) (rest := []) C (ce_sok aK aV B0) hH (c12_lettersHere l D ad cA aK aV B0 C.2.2.2.2.2.2.1 F (99 : Int32)  o1.2 o16 eo16) lo_68.1 lo_68.2.choose_spec rfl rfl mc12_lettersHere ml_12_322 mi12_lettersHere ms12_lettersHere mI_12 (n := 1) (by decide) rfl ⟨Nat.le_of_ble_eq_true rfl, Nat.le_of_ble_eq_true rfl⟩ ⟨Nat.le_of_ble_eq_true rfl, Nat.le_of_ble_eq_true rfl⟩ hl.1 rfl (Nat.le_of_ble_eq_true rfl) d12_readsPacket_16 (fun H locs hH => ?_)
    refine W.eq (g2 := F0 m 19 ls [.int o16.1]) rfl ?_
    refine lv_istore_n (lv' := [(1, .int o16.1), (0, .ref (ad 68))]) hx hb d12_readsPacket_19 rfl hl (by decide) rfl (fun ls hl => ?_)
    refine lv_aload_n hx hb d12_readsPacket_20 rfl (lv_at hl 1 rfl) ?_
    refine lv_bipush (v := (112 : Int32)) hx hb d12_readsPacket_21 (by decide) ?_
    obtain ⟨o23, eo23, e⟩ := ce_bd e
    refine ce_callV (As := [.int (112 : Int32)]) (rest := []) C (ce_sok aK aV B0) hH (c12_lettersHere l D ad cA aK aV B0 C.2.2.2.2.2.2.1 F (112 : Int32)  o16.2 o23 eo23) lo_68.1 lo_68.2.choose_spec rfl rfl mc12_lettersHere ml_12_322 mi12_lettersHere ms12_lettersHere mI_12 (n := 1) (by decide) rfl ⟨Nat.le_of_ble_eq_true rfl, Nat.le_of_ble_eq_true rfl⟩ ⟨Nat.le_of_ble_eq_true rfl, Nat.le_of_ble_eq_true rfl⟩ hl.1 rfl (Nat.le_of_ble_eq_true rfl) d12_readsPacket_23 (fun H locs hH => ?_)
    refine W.eq (g2 := F0 m 26 ls [.int o23.1]) rfl ?_
    refine lv_if_ne (tgt := 33) hx hb d12_readsPacket_26 (by decide) (fun hc26 => ?_) (fun hc26 => ?_)
    · have e := ce_if0 e hc26
      refine lv_iconst (v := (0 : Int32)) hx hb d12_readsPacket_33 (by decide) ?_
      exact j12_readsPacket_34 C F o16.1 (0 : Int32)  r o23.2 _ _ _ hH (lv_sub hl [1, 0] rfl) e
    · have e := ce_if1 e hc26
      refine lv_iconst (v := (1 : Int32)) hx hb d12_readsPacket_29 (by decide) ?_
      refine lv_goto (tgt := 34) hx hb d12_readsPacket_30 (by decide) ?_
      exact j12_readsPacket_34 C F o16.1 (1 : Int32)  r o23.2 _ _ _ hH (lv_sub hl [1, 0] rfl) e
  · have e := ce_if1 e hc4
    refine lv_aload_n hx hb d12_readsPacket_7 rfl (lv_at hl 0 rfl) ?_
    refine lv_iconst (v := (1 : Int32)) hx hb d12_readsPacket_8 (by decide) ?_
    obtain ⟨o9, eo9, e⟩ := ce_bd e
    refine ce_callV (As := [.int (1 : Int32)]) (rest := []) C (ce_sok aK aV B0) hH (c12_faults l D ad cA aK aV B0 C.2.2.2.2.2.2.1 F (1 : Int32)  o1.2 o9 eo9) lo_68.1 lo_68.2.choose_spec rfl rfl mc12_faults ml_12_142 mi12_faults ms12_faults mI_12 (n := 1) (by decide) rfl ⟨Nat.le_of_ble_eq_true rfl, Nat.le_of_ble_eq_true rfl⟩ ⟨Nat.le_of_ble_eq_true rfl, Nat.le_of_ble_eq_true rfl⟩ hl.1 rfl (Nat.le_of_ble_eq_true rfl) d12_readsPacket_9 (fun H locs hH => ?_)
    refine W.eq (g2 := F0 m 12 ls []) rfl ?_
    exact ce_vret C (ce_sok aK aV B0) hH (Option.some.inj e) d12_readsPacket_12
abbrev b12_builds : ByteArray := prog_14_method_80_code
def y12_builds : MethodName := ⟨cn_12, "builds", "()V"⟩
theorem d12_builds_0 : decode b12_builds 0 = .ok (.aload_n 0, 1) := by decide +kernel
theorem d12_builds_1 : decode b12_builds 1 = .ok (.iconst 0, 1) := by decide +kernel
theorem d12_builds_2 : decode b12_builds 2 = .ok (.putfield 326, 3) := by decide +kernel
theorem d12_builds_5 : decode b12_builds 5 = .ok (.iconst 0, 1) := by decide +kernel
theorem d12_builds_6 : decode b12_builds 6 = .ok (.istore_n 1, 1) := by decide +kernel
theorem d12_builds_7 : decode b12_builds 7 = .ok (.iload_n 1, 1) := by decide +kernel
theorem d12_builds_8 : decode b12_builds 8 = .ok (.aload_n 0, 1) := by decide +kernel
theorem d12_builds_9 : decode b12_builds 9 = .ok (.getfield 338, 3) := by decide +kernel
theorem d12_builds_12 : decode b12_builds 12 = .ok (.if_icmp .ge 153, 3) := by decide +kernel
theorem d12_builds_15 : decode b12_builds 15 = .ok (.aload_n 0, 1) := by decide +kernel
theorem d12_builds_16 : decode b12_builds 16 = .ok (.getfield 77, 3) := by decide +kernel
theorem d12_builds_19 : decode b12_builds 19 = .ok (.iload_n 1, 1) := by decide +kernel
theorem d12_builds_20 : decode b12_builds 20 = .ok (.iconst (-1), 1) := by decide +kernel
theorem d12_builds_21 : decode b12_builds 21 = .ok (.iastore, 1) := by decide +kernel
theorem d12_builds_22 : decode b12_builds 22 = .ok (.aload_n 0, 1) := by decide +kernel
theorem d12_builds_23 : decode b12_builds 23 = .ok (.getfield 80, 3) := by decide +kernel
theorem d12_builds_26 : decode b12_builds 26 = .ok (.iload_n 1, 1) := by decide +kernel
theorem d12_builds_27 : decode b12_builds 27 = .ok (.iconst (-1), 1) := by decide +kernel
theorem d12_builds_28 : decode b12_builds 28 = .ok (.iastore, 1) := by decide +kernel
theorem d12_builds_29 : decode b12_builds 29 = .ok (.aload_n 0, 1) := by decide +kernel
theorem d12_builds_30 : decode b12_builds 30 = .ok (.getfield 83, 3) := by decide +kernel
theorem d12_builds_33 : decode b12_builds 33 = .ok (.iload_n 1, 1) := by decide +kernel
theorem d12_builds_34 : decode b12_builds 34 = .ok (.iconst (-1), 1) := by decide +kernel
theorem d12_builds_35 : decode b12_builds 35 = .ok (.iastore, 1) := by decide +kernel
theorem d12_builds_36 : decode b12_builds 36 = .ok (.aload_n 0, 1) := by decide +kernel
theorem d12_builds_37 : decode b12_builds 37 = .ok (.getfield 65, 3) := by decide +kernel
theorem d12_builds_40 : decode b12_builds 40 = .ok (.iload_n 1, 1) := by decide +kernel
theorem d12_builds_41 : decode b12_builds 41 = .ok (.iaload, 1) := by decide +kernel
theorem d12_builds_42 : decode b12_builds 42 = .ok (.iconst 1, 1) := by decide +kernel
theorem d12_builds_43 : decode b12_builds 43 = .ok (.isub, 1) := by decide +kernel
theorem d12_builds_44 : decode b12_builds 44 = .ok (.istore_n 2, 1) := by decide +kernel
theorem d12_builds_45 : decode b12_builds 45 = .ok (.iload_n 2, 1) := by decide +kernel
theorem d12_builds_46 : decode b12_builds 46 = .ok (.ifCond .lt 93, 3) := by decide +kernel
theorem d12_builds_49 : decode b12_builds 49 = .ok (.aload_n 0, 1) := by decide +kernel
theorem d12_builds_50 : decode b12_builds 50 = .ok (.getfield 68, 3) := by decide +kernel
theorem d12_builds_53 : decode b12_builds 53 = .ok (.iconst 4, 1) := by decide +kernel
theorem d12_builds_54 : decode b12_builds 54 = .ok (.iload_n 1, 1) := by decide +kernel
theorem d12_builds_55 : decode b12_builds 55 = .ok (.imul, 1) := by decide +kernel
theorem d12_builds_56 : decode b12_builds 56 = .ok (.iload_n 2, 1) := by decide +kernel
theorem d12_builds_57 : decode b12_builds 57 = .ok (.iadd, 1) := by decide +kernel
theorem d12_builds_58 : decode b12_builds 58 = .ok (.iaload, 1) := by decide +kernel
theorem d12_builds_59 : decode b12_builds 59 = .ok (.iconst 2, 1) := by decide +kernel
theorem d12_builds_60 : decode b12_builds 60 = .ok (.if_icmp .ne 43, 3) := by decide +kernel
theorem d12_builds_63 : decode b12_builds 63 = .ok (.aload_n 0, 1) := by decide +kernel
theorem d12_builds_64 : decode b12_builds 64 = .ok (.dup, 1) := by decide +kernel
theorem d12_builds_65 : decode b12_builds 65 = .ok (.getfield 326, 3) := by decide +kernel
theorem d12_builds_68 : decode b12_builds 68 = .ok (.iconst 1, 1) := by decide +kernel
theorem d12_builds_69 : decode b12_builds 69 = .ok (.isub, 1) := by decide +kernel
theorem d12_builds_70 : decode b12_builds 70 = .ok (.putfield 326, 3) := by decide +kernel
theorem d12_builds_73 : decode b12_builds 73 = .ok (.aload_n 0, 1) := by decide +kernel
theorem d12_builds_74 : decode b12_builds 74 = .ok (.getfield 77, 3) := by decide +kernel
theorem d12_builds_77 : decode b12_builds 77 = .ok (.aload_n 0, 1) := by decide +kernel
theorem d12_builds_78 : decode b12_builds 78 = .ok (.getfield 86, 3) := by decide +kernel
theorem d12_builds_81 : decode b12_builds 81 = .ok (.aload_n 0, 1) := by decide +kernel
theorem d12_builds_82 : decode b12_builds 82 = .ok (.getfield 326, 3) := by decide +kernel
theorem d12_builds_85 : decode b12_builds 85 = .ok (.iaload, 1) := by decide +kernel
theorem d12_builds_86 : decode b12_builds 86 = .ok (.iload_n 1, 1) := by decide +kernel
theorem d12_builds_87 : decode b12_builds 87 = .ok (.iastore, 1) := by decide +kernel
theorem d12_builds_88 : decode b12_builds 88 = .ok (.aload_n 0, 1) := by decide +kernel
theorem d12_builds_89 : decode b12_builds 89 = .ok (.getfield 83, 3) := by decide +kernel
theorem d12_builds_92 : decode b12_builds 92 = .ok (.aload_n 0, 1) := by decide +kernel
theorem d12_builds_93 : decode b12_builds 93 = .ok (.getfield 86, 3) := by decide +kernel
theorem d12_builds_96 : decode b12_builds 96 = .ok (.aload_n 0, 1) := by decide +kernel
theorem d12_builds_97 : decode b12_builds 97 = .ok (.getfield 326, 3) := by decide +kernel
theorem d12_builds_100 : decode b12_builds 100 = .ok (.iaload, 1) := by decide +kernel
theorem d12_builds_101 : decode b12_builds 101 = .ok (.iload_n 2, 1) := by decide +kernel
theorem d12_builds_102 : decode b12_builds 102 = .ok (.iastore, 1) := by decide +kernel
theorem d12_builds_103 : decode b12_builds 103 = .ok (.aload_n 0, 1) := by decide +kernel
theorem d12_builds_104 : decode b12_builds 104 = .ok (.getfield 80, 3) := by decide +kernel
theorem d12_builds_107 : decode b12_builds 107 = .ok (.iload_n 1, 1) := by decide +kernel
theorem d12_builds_108 : decode b12_builds 108 = .ok (.aload_n 0, 1) := by decide +kernel
theorem d12_builds_109 : decode b12_builds 109 = .ok (.getfield 68, 3) := by decide +kernel
theorem d12_builds_112 : decode b12_builds 112 = .ok (.iconst 4, 1) := by decide +kernel
theorem d12_builds_113 : decode b12_builds 113 = .ok (.iload_n 1, 1) := by decide +kernel
theorem d12_builds_114 : decode b12_builds 114 = .ok (.imul, 1) := by decide +kernel
theorem d12_builds_115 : decode b12_builds 115 = .ok (.iload_n 2, 1) := by decide +kernel
theorem d12_builds_116 : decode b12_builds 116 = .ok (.iadd, 1) := by decide +kernel
theorem d12_builds_117 : decode b12_builds 117 = .ok (.iaload, 1) := by decide +kernel
theorem d12_builds_118 : decode b12_builds 118 = .ok (.iconst 1, 1) := by decide +kernel
theorem d12_builds_119 : decode b12_builds 119 = .ok (.if_icmp .ne 7, 3) := by decide +kernel
theorem d12_builds_122 : decode b12_builds 122 = .ok (.iload_n 2, 1) := by decide +kernel
theorem d12_builds_123 : decode b12_builds 123 = .ok (.goto 9, 3) := by decide +kernel
theorem d12_builds_126 : decode b12_builds 126 = .ok (.aload_n 0, 1) := by decide +kernel
theorem d12_builds_127 : decode b12_builds 127 = .ok (.getfield 80, 3) := by decide +kernel
theorem d12_builds_130 : decode b12_builds 130 = .ok (.iload_n 1, 1) := by decide +kernel
theorem d12_builds_131 : decode b12_builds 131 = .ok (.iaload, 1) := by decide +kernel
theorem d12_builds_132 : decode b12_builds 132 = .ok (.iastore, 1) := by decide +kernel
theorem d12_builds_133 : decode b12_builds 133 = .ok (.iinc 2 (-1), 3) := by decide +kernel
theorem d12_builds_136 : decode b12_builds 136 = .ok (.goto (-91), 3) := by decide +kernel
theorem d12_builds_139 : decode b12_builds 139 = .ok (.aload_n 0, 1) := by decide +kernel
theorem d12_builds_140 : decode b12_builds 140 = .ok (.getfield 86, 3) := by decide +kernel
theorem d12_builds_143 : decode b12_builds 143 = .ok (.aload_n 0, 1) := by decide +kernel
theorem d12_builds_144 : decode b12_builds 144 = .ok (.getfield 326, 3) := by decide +kernel
theorem d12_builds_147 : decode b12_builds 147 = .ok (.iload_n 1, 1) := by decide +kernel
theorem d12_builds_148 : decode b12_builds 148 = .ok (.iastore, 1) := by decide +kernel
theorem d12_builds_149 : decode b12_builds 149 = .ok (.aload_n 0, 1) := by decide +kernel
theorem d12_builds_150 : decode b12_builds 150 = .ok (.dup, 1) := by decide +kernel
theorem d12_builds_151 : decode b12_builds 151 = .ok (.getfield 326, 3) := by decide +kernel
theorem d12_builds_154 : decode b12_builds 154 = .ok (.iconst 1, 1) := by decide +kernel
theorem d12_builds_155 : decode b12_builds 155 = .ok (.iadd, 1) := by decide +kernel
theorem d12_builds_156 : decode b12_builds 156 = .ok (.putfield 326, 3) := by decide +kernel
theorem d12_builds_159 : decode b12_builds 159 = .ok (.iinc 1 1, 3) := by decide +kernel
theorem d12_builds_162 : decode b12_builds 162 = .ok (.goto (-155), 3) := by decide +kernel
theorem d12_builds_165 : decode b12_builds 165 = .ok (.return_, 1) := by decide +kernel
theorem fl_12_338 : Cond.fieldLink cn_12 338 (ft_12 29).1 (ft_12 29).2.1 (ft_12 29).2.2.1 ∈ ce_cm := ce_cm_of (List.mem_of_getElem? (i := 1150) (by decide +kernel)) (by decide +kernel)
theorem gf_12_338 (C : ce_Cx p s m args c meth cc nL ret cn_12 D ad cA B0 (ce_St aK aV B0)) (hH : ce_H D ad cA B0 X s h H locs) (hdg : decode cc pc = .ok (.getfield 338, 3)) (kk : W p l e0 R s m args below meth c H locs cells slots Q (F0 m (pc + 3) ls (.int (h 68 29) :: rest))) : W p l e0 R s m args below meth c H locs cells slots Q (F0 m pc ls (.ref (ad 68) :: rest)) := by
  exact ce_get C hH (k := 68) (ci := 12) (j := 29) (N := 43) (sj := none) (by decide) rfl rfl fw_12 (by decide) fl_12_338 rfl hdg kk
theorem pf_12_338 (C : ce_Cx p s m args c meth cc nL ret cn_12 D ad cA B0 (ce_St aK aV B0)) (hH : ce_H D ad cA B0 X s h H locs) {x : Int32} (hdg : decode cc pc = .ok (.putfield 338, 3)) (kk : ∀ (H1 : Heap) (locs1 : List Loc), ce_H D ad cA B0 X s (hp_up h 68 29 x) H1 locs1 → W p l e0 R s m args below meth c H1 locs1 cells slots Q (F0 m (pc + 3) ls rest)) : W p l e0 R s m args below meth c H locs cells slots Q (F0 m pc ls (.int x :: .ref (ad 68) :: rest)) := by
  exact ce_put C hH (k := 68) (ci := 12) (j := 29) (N := 43) (fy := fy_12) (sj := none) x (by decide) rfl rfl fw_12 fo_12 fn_12 (by decide) fl_12_338 rfl rfl (v := .int x) (by simp [ce_slot, upd]) rfl rfl hdg kk
theorem fl_12_77 : Cond.fieldLink cn_12 77 (ft_12 33).1 (ft_12 33).2.1 (ft_12 33).2.2.1 ∈ ce_cm := ce_cm_of (List.mem_of_getElem? (i := 1154) (by decide +kernel)) (by decide +kernel)
theorem gf_12_77 (C : ce_Cx p s m args c meth cc nL ret cn_12 D ad cA B0 (ce_St aK aV B0)) (hH : ce_H D ad cA B0 X s h H locs) (hdg : decode cc pc = .ok (.getfield 77, 3)) (kk : W p l e0 R s m args below meth c H locs cells slots Q (F0 m (pc + 3) ls (.ref (ad 90) :: rest))) : W p l e0 R s m args below meth c H locs cells slots Q (F0 m pc ls (.ref (ad 68) :: rest)) := by
  exact ce_get C hH (k := 68) (ci := 12) (j := 33) (N := 43) (sj := some (some 90)) (by decide) rfl rfl fw_12 (by decide) fl_12_77 rfl hdg kk
theorem lc_90 : 90 < 96 ∧ ce_lay 90 = .inl (0, 12) := ⟨by decide, rfl⟩
theorem fl_12_80 : Cond.fieldLink cn_12 80 (ft_12 34).1 (ft_12 34).2.1 (ft_12 34).2.2.1 ∈ ce_cm := ce_cm_of (List.mem_of_getElem? (i := 1155) (by decide +kernel)) (by decide +kernel)
theorem gf_12_80 (C : ce_Cx p s m args c meth cc nL ret cn_12 D ad cA B0 (ce_St aK aV B0)) (hH : ce_H D ad cA B0 X s h H locs) (hdg : decode cc pc = .ok (.getfield 80, 3)) (kk : W p l e0 R s m args below meth c H locs cells slots Q (F0 m (pc + 3) ls (.ref (ad 91) :: rest))) : W p l e0 R s m args below meth c H locs cells slots Q (F0 m pc ls (.ref (ad 68) :: rest)) := by
  exact ce_get C hH (k := 68) (ci := 12) (j := 34) (N := 43) (sj := some (some 91)) (by decide) rfl rfl fw_12 (by decide) fl_12_80 rfl hdg kk
theorem lc_91 : 91 < 96 ∧ ce_lay 91 = .inl (0, 12) := ⟨by decide, rfl⟩
theorem fl_12_83 : Cond.fieldLink cn_12 83 (ft_12 35).1 (ft_12 35).2.1 (ft_12 35).2.2.1 ∈ ce_cm := ce_cm_of (List.mem_of_getElem? (i := 1156) (by decide +kernel)) (by decide +kernel)
theorem gf_12_83 (C : ce_Cx p s m args c meth cc nL ret cn_12 D ad cA B0 (ce_St aK aV B0)) (hH : ce_H D ad cA B0 X s h H locs) (hdg : decode cc pc = .ok (.getfield 83, 3)) (kk : W p l e0 R s m args below meth c H locs cells slots Q (F0 m (pc + 3) ls (.ref (ad 92) :: rest))) : W p l e0 R s m args below meth c H locs cells slots Q (F0 m pc ls (.ref (ad 68) :: rest)) := by
  exact ce_get C hH (k := 68) (ci := 12) (j := 35) (N := 43) (sj := some (some 92)) (by decide) rfl rfl fw_12 (by decide) fl_12_83 rfl hdg kk
theorem lc_92 : 92 < 96 ∧ ce_lay 92 = .inl (0, 12) := ⟨by decide, rfl⟩
theorem fl_12_65 : Cond.fieldLink cn_12 65 (ft_12 27).1 (ft_12 27).2.1 (ft_12 27).2.2.1 ∈ ce_cm := ce_cm_of (List.mem_of_getElem? (i := 1148) (by decide +kernel)) (by decide +kernel)
theorem gf_12_65 (C : ce_Cx p s m args c meth cc nL ret cn_12 D ad cA B0 (ce_St aK aV B0)) (hH : ce_H D ad cA B0 X s h H locs) (hdg : decode cc pc = .ok (.getfield 65, 3)) (kk : W p l e0 R s m args below meth c H locs cells slots Q (F0 m (pc + 3) ls (.ref (ad 86) :: rest))) : W p l e0 R s m args below meth c H locs cells slots Q (F0 m pc ls (.ref (ad 68) :: rest)) := by
  exact ce_get C hH (k := 68) (ci := 12) (j := 27) (N := 43) (sj := some (some 86)) (by decide) rfl rfl fw_12 (by decide) fl_12_65 rfl hdg kk
theorem lc_86 : 86 < 96 ∧ ce_lay 86 = .inl (0, 12) := ⟨by decide, rfl⟩
theorem fl_12_68 : Cond.fieldLink cn_12 68 (ft_12 28).1 (ft_12 28).2.1 (ft_12 28).2.2.1 ∈ ce_cm := ce_cm_of (List.mem_of_getElem? (i := 1149) (by decide +kernel)) (by decide +kernel)
theorem gf_12_68 (C : ce_Cx p s m args c meth cc nL ret cn_12 D ad cA B0 (ce_St aK aV B0)) (hH : ce_H D ad cA B0 X s h H locs) (hdg : decode cc pc = .ok (.getfield 68, 3)) (kk : W p l e0 R s m args below meth c H locs cells slots Q (F0 m (pc + 3) ls (.ref (ad 87) :: rest))) : W p l e0 R s m args below meth c H locs cells slots Q (F0 m pc ls (.ref (ad 68) :: rest)) := by
  exact ce_get C hH (k := 68) (ci := 12) (j := 28) (N := 43) (sj := some (some 87)) (by decide) rfl rfl fw_12 (by decide) fl_12_68 rfl hdg kk
theorem lc_87 : 87 < 96 ∧ ce_lay 87 = .inl (0, 48) := ⟨by decide, rfl⟩
def f12_builds_b45 (F : Nat) (x1 : Int32) (x2 : Int32) (h : Hp) : Option ((Int32 × Hp) ⊕ (Hp)) :=
  if x2 < 0 then
    some (.inr h)
  else
    if ce_in (((4 : Int32) * x1) + x2) 48 = true then
      if (h 87 ((((4 : Int32) * x1) + x2)).toNatClampNeg) = (2 : Int32) then
        ce_nm (hp_up h 68 37 ((h 68 37) - (1 : Int32))) (fun h_70 =>
          if ce_in (h_70 68 37) 13 = true then
            if ce_in (h_70 93 ((h_70 68 37)).toNatClampNeg) 12 = true then
              ce_nm (hp_up h_70 90 ((h_70 93 ((h_70 68 37)).toNatClampNeg)).toNatClampNeg x1) (fun h_87 =>
                if ce_in (h_87 68 37) 13 = true then
                  if ce_in (h_87 93 ((h_87 68 37)).toNatClampNeg) 12 = true then
                    ce_nm (hp_up h_87 92 ((h_87 93 ((h_87 68 37)).toNatClampNeg)).toNatClampNeg x2) (fun h_102 =>
                      if ce_in (((4 : Int32) * x1) + x2) 48 = true then
                        if (h_102 87 ((((4 : Int32) * x1) + x2)).toNatClampNeg) = (1 : Int32) then
                          if ce_in x1 12 = true then
                            ce_nm (hp_up h_102 91 (x1).toNatClampNeg x2) (fun h_132 =>
                              some (.inl (x2 + (-1 : Int32), h_132)))
                          else none
                        else
                          if ce_in x1 12 = true then
                            if ce_in x1 12 = true then
                              ce_nm (hp_up h_102 91 (x1).toNatClampNeg (h_102 91 (x1).toNatClampNeg)) (fun h_132 =>
                                some (.inl (x2 + (-1 : Int32), h_132)))
                            else none
                          else none
                      else none)
                  else none
                else none)
            else none
          else none)
      else
        if ce_in (((4 : Int32) * x1) + x2) 48 = true then
          if (h 87 ((((4 : Int32) * x1) + x2)).toNatClampNeg) = (1 : Int32) then
            if ce_in x1 12 = true then
              ce_nm (hp_up h 91 (x1).toNatClampNeg x2) (fun h_132 =>
                some (.inl (x2 + (-1 : Int32), h_132)))
            else none
          else
            if ce_in x1 12 = true then
              if ce_in x1 12 = true then
                ce_nm (hp_up h 91 (x1).toNatClampNeg (h 91 (x1).toNatClampNeg)) (fun h_132 =>
                  some (.inl (x2 + (-1 : Int32), h_132)))
              else none
            else none
        else none
    else none
set_option maxRecDepth 20000 in
theorem l12_builds_45 (C : ce_Cx p s m args c meth b12_builds 3 none cn_12 D ad cA B0 (ce_St aK aV B0)) (F : Nat) (x1 : Int32)  (r : Hp) (g : (Hp) → Option (Hp)) (hx : ∀  (h : Hp) (H : Heap) (locs : List Loc) (ls : Array Slot), ce_H D ad cA B0 [] s h H locs → lv_has ls 3 [(0, .ref (ad 68)), (1, .int x1)] → g h = some r → W p l e0 { frames := 0, cells := 0, slots := 0, locals := 0 } s m args below meth c H locs 0 0 (MQ below (ce_Q D ad cA B0 (ce_St aK aV B0) none r) args s 0 0 (fun q => B0 ≤ q)) (F0 m 139 ls [])) : ∀ (n : Nat) (x2 : Int32) (h : Hp) (H : Heap) (locs : List Loc) (ls : Array Slot), ce_H D ad cA B0 [] s h H locs → lv_has ls 3 [(0, .ref (ad 68)), (1, .int x1), (2, .int x2)] → Option.bind (ce_it (fun (st : Int32 × Hp) => f12_builds_b45 F x1 st.1 st.2) n (x2, h)) g = some r → W p l e0 { frames := 0, cells := 0, slots := 0, locals := 0 } s m args below meth c H locs 0 0 (MQ below (ce_Q D ad cA B0 (ce_St aK aV B0) none r) args s 0 0 (fun q => B0 ≤ q)) (F0 m 45 ls []) := by
  intro n
  induction n with
  | zero =>
    intro x2 h H locs ls hH hl e
    exact absurd e (fun z => by cases z)
  | succ n ih =>
    intro x2 h H locs ls hH hl e
    have hx9 := C.1
    have hb := C.2.1
    have e : Option.bind (f12_builds_b45 F x1 x2 h) _ = some r := ce_it_bd e
    unfold f12_builds_b45 at e
    refine lv_iload_n hx9 hb d12_builds_45 rfl (lv_at hl 2 rfl) ?_
    refine lv_if_lt (tgt := 139) hx9 hb d12_builds_46 (by decide) (fun hc46 => ?_) (fun hc46 => ?_)
    · have e := ce_if1 e hc46
      exact hx  h _ _ _ hH (lv_sub hl [0, 1] rfl) e
    · have e := ce_if0 e hc46
      refine lv_aload_n hx9 hb d12_builds_49 rfl (lv_at hl 0 rfl) ?_
      refine gf_12_68 C hH d12_builds_50 ?_
      refine lv_iconst (v := (4 : Int32)) hx9 hb d12_builds_53 (by decide) ?_
      refine lv_iload_n hx9 hb d12_builds_54 rfl (lv_at hl 1 rfl) ?_
      refine lv_imul hx9 hb d12_builds_55 ?_
      refine lv_iload_n hx9 hb d12_builds_56 rfl (lv_at hl 2 rfl) ?_
      refine lv_iadd hx9 hb d12_builds_57 ?_
      obtain ⟨hi58, e⟩ := ce_gd e
      refine ce_iald C hH lc_87.1 lc_87.2 (ce_in_vp hi58) d12_builds_58 ?_
      refine lv_iconst (v := (2 : Int32)) hx9 hb d12_builds_59 (by decide) ?_
      refine lv_icmp_ne (tgt := 103) hx9 hb d12_builds_60 (by decide) (fun hc60 => ?_) (fun hc60 => ?_)
      · have e := ce_if0 e hc60
        refine lv_aload_n hx9 hb d12_builds_103 rfl (lv_at hl 0 rfl) ?_
        refine gf_12_80 C hH d12_builds_104 ?_
        refine lv_iload_n hx9 hb d12_builds_107 rfl (lv_at hl 1 rfl) ?_
        refine lv_aload_n hx9 hb d12_builds_108 rfl (lv_at hl 0 rfl) ?_
        refine gf_12_68 C hH d12_builds_109 ?_
        refine lv_iconst (v := (4 : Int32)) hx9 hb d12_builds_112 (by decide) ?_
        refine lv_iload_n hx9 hb d12_builds_113 rfl (lv_at hl 1 rfl) ?_
        refine lv_imul hx9 hb d12_builds_114 ?_
        refine lv_iload_n hx9 hb d12_builds_115 rfl (lv_at hl 2 rfl) ?_
        refine lv_iadd hx9 hb d12_builds_116 ?_
        obtain ⟨hi117, e⟩ := ce_gd e
        refine ce_iald C hH lc_87.1 lc_87.2 (ce_in_vp hi117) d12_builds_117 ?_
        refine lv_iconst (v := (1 : Int32)) hx9 hb d12_builds_118 (by decide) ?_
        refine lv_icmp_ne (tgt := 126) hx9 hb d12_builds_119 (by decide) (fun hc119 => ?_) (fun hc119 => ?_)
        · have e := ce_if0 e hc119
          refine lv_aload_n hx9 hb d12_builds_126 rfl (lv_at hl 0 rfl) ?_
          refine gf_12_80 C hH d12_builds_127 ?_
          refine lv_iload_n hx9 hb d12_builds_130 rfl (lv_at hl 1 rfl) ?_
          obtain ⟨hi131, e⟩ := ce_gd e
          refine ce_iald C hH lc_91.1 lc_91.2 (ce_in_vp hi131) d12_builds_131 ?_
          obtain ⟨hi132, e⟩ := ce_gd e
          refine ce_iast C hH lc_91.1 lc_91.2 (ce_in_vp hi132) d12_builds_132 (fun H locs hH => ?_)
          obtain ⟨h_132, eh_132, e⟩ := ce_nmE e
          rw [← eh_132] at hH
          refine lv_iinc (v := x2 + (-1 : Int32)) (lv' := [(2, .int (x2 + (-1 : Int32))), (0, .ref (ad 68)), (1, .int x1)]) hx9 hb d12_builds_133 hl (k := 2) rfl rfl (by decide) rfl (fun ls hl => ?_)
          refine lv_goto (tgt := 45) hx9 hb d12_builds_136 (by decide) ?_
          exact ih (x2 + (-1 : Int32)) h_132 _ _ _ hH (lv_sub hl [1, 2, 0] rfl) e
        · have e := ce_if1 e hc119
          refine lv_iload_n hx9 hb d12_builds_122 rfl (lv_at hl 2 rfl) ?_
          refine lv_goto (tgt := 132) hx9 hb d12_builds_123 (by decide) ?_
          obtain ⟨hi132, e⟩ := ce_gd e
          refine ce_iast C hH lc_91.1 lc_91.2 (ce_in_vp hi132) d12_builds_132 (fun H locs hH => ?_)
          obtain ⟨h_132, eh_132, e⟩ := ce_nmE e
          rw [← eh_132] at hH
          refine lv_iinc (v := x2 + (-1 : Int32)) (lv' := [(2, .int (x2 + (-1 : Int32))), (0, .ref (ad 68)), (1, .int x1)]) hx9 hb d12_builds_133 hl (k := 2) rfl rfl (by decide) rfl (fun ls hl => ?_)
          refine lv_goto (tgt := 45) hx9 hb d12_builds_136 (by decide) ?_
          exact ih (x2 + (-1 : Int32)) h_132 _ _ _ hH (lv_sub hl [1, 2, 0] rfl) e
      · have e := ce_if1 e hc60
        refine lv_aload_n hx9 hb d12_builds_63 rfl (lv_at hl 0 rfl) ?_
        refine lv_dup hx9 hb d12_builds_64 rfl ?_
        refine gf_12_326 C hH d12_builds_65 ?_
        refine lv_iconst (v := (1 : Int32)) hx9 hb d12_builds_68 (by decide) ?_
        refine lv_isub hx9 hb d12_builds_69 ?_
        refine pf_12_326 C hH d12_builds_70 (fun H locs hH => ?_)
        obtain ⟨h_70, eh_70, e⟩ := ce_nmE e
        rw [← eh_70] at hH
        refine lv_aload_n hx9 hb d12_builds_73 rfl (lv_at hl 0 rfl) ?_
        refine gf_12_77 C hH d12_builds_74 ?_
        refine lv_aload_n hx9 hb d12_builds_77 rfl (lv_at hl 0 rfl) ?_
        refine gf_12_86 C hH d12_builds_78 ?_
        refine lv_aload_n hx9 hb d12_builds_81 rfl (lv_at hl 0 rfl) ?_
        refine gf_12_326 C hH d12_builds_82 ?_
        obtain ⟨hi85, e⟩ := ce_gd e
        refine ce_iald C hH lc_93.1 lc_93.2 (ce_in_vp hi85) d12_builds_85 ?_
        refine lv_iload_n hx9 hb d12_builds_86 rfl (lv_at hl 1 rfl) ?_
        obtain ⟨hi87, e⟩ := ce_gd e
        refine ce_iast C hH lc_90.1 lc_90.2 (ce_in_vp hi87) d12_builds_87 (fun H locs hH => ?_)
        obtain ⟨h_87, eh_87, e⟩ := ce_nmE e
        rw [← eh_87] at hH
        refine lv_aload_n hx9 hb d12_builds_88 rfl (lv_at hl 0 rfl) ?_
        refine gf_12_83 C hH d12_builds_89 ?_
        refine lv_aload_n hx9 hb d12_builds_92 rfl (lv_at hl 0 rfl) ?_
        refine gf_12_86 C hH d12_builds_93 ?_
        refine lv_aload_n hx9 hb d12_builds_96 rfl (lv_at hl 0 rfl) ?_
        refine gf_12_326 C hH d12_builds_97 ?_
        obtain ⟨hi100, e⟩ := ce_gd e
        refine ce_iald C hH lc_93.1 lc_93.2 (ce_in_vp hi100) d12_builds_100 ?_
        refine lv_iload_n hx9 hb d12_builds_101 rfl (lv_at hl 2 rfl) ?_
        obtain ⟨hi102, e⟩ := ce_gd e
        refine ce_iast C hH lc_92.1 lc_92.2 (ce_in_vp hi102) d12_builds_102 (fun H locs hH => ?_)
        obtain ⟨h_102, eh_102, e⟩ := ce_nmE e
        rw [← eh_102] at hH
        refine lv_aload_n hx9 hb d12_builds_103 rfl (lv_at hl 0 rfl) ?_
        refine gf_12_80 C hH d12_builds_104 ?_
        refine lv_iload_n hx9 hb d12_builds_107 rfl (lv_at hl 1 rfl) ?_
        refine lv_aload_n hx9 hb d12_builds_108 rfl (lv_at hl 0 rfl) ?_
        refine gf_12_68 C hH d12_builds_109 ?_
        refine lv_iconst (v := (4 : Int32)) hx9 hb d12_builds_112 (by decide) ?_
        refine lv_iload_n hx9 hb d12_builds_113 rfl (lv_at hl 1 rfl) ?_
        refine lv_imul hx9 hb d12_builds_114 ?_
        refine lv_iload_n hx9 hb d12_builds_115 rfl (lv_at hl 2 rfl) ?_
        refine lv_iadd hx9 hb d12_builds_116 ?_
        obtain ⟨hi117, e⟩ := ce_gd e
        refine ce_iald C hH lc_87.1 lc_87.2 (ce_in_vp hi117) d12_builds_117 ?_
        refine lv_iconst (v := (1 : Int32)) hx9 hb d12_builds_118 (by decide) ?_
        refine lv_icmp_ne (tgt := 126) hx9 hb d12_builds_119 (by decide) (fun hc119 => ?_) (fun hc119 => ?_)
        · have e := ce_if0 e hc119
          refine lv_aload_n hx9 hb d12_builds_126 rfl (lv_at hl 0 rfl) ?_
          refine gf_12_80 C hH d12_builds_127 ?_
          refine lv_iload_n hx9 hb d12_builds_130 rfl (lv_at hl 1 rfl) ?_
          obtain ⟨hi131, e⟩ := ce_gd e
          refine ce_iald C hH lc_91.1 lc_91.2 (ce_in_vp hi131) d12_builds_131 ?_
          obtain ⟨hi132, e⟩ := ce_gd e
          refine ce_iast C hH lc_91.1 lc_91.2 (ce_in_vp hi132) d12_builds_132 (fun H locs hH => ?_)
          obtain ⟨h_132, eh_132, e⟩ := ce_nmE e
          rw [← eh_132] at hH
          refine lv_iinc (v := x2 + (-1 : Int32)) (lv' := [(2, .int (x2 + (-1 : Int32))), (0, .ref (ad 68)), (1, .int x1)]) hx9 hb d12_builds_133 hl (k := 2) rfl rfl (by decide) rfl (fun ls hl => ?_)
          refine lv_goto (tgt := 45) hx9 hb d12_builds_136 (by decide) ?_
          exact ih (x2 + (-1 : Int32)) h_132 _ _ _ hH (lv_sub hl [1, 2, 0] rfl) e
        · have e := ce_if1 e hc119
          refine lv_iload_n hx9 hb d12_builds_122 rfl (lv_at hl 2 rfl) ?_
          refine lv_goto (tgt := 132) hx9 hb d12_builds_123 (by decide) ?_
          obtain ⟨hi132, e⟩ := ce_gd e
          refine ce_iast C hH lc_91.1 lc_91.2 (ce_in_vp hi132) d12_builds_132 (fun H locs hH => ?_)
          obtain ⟨h_132, eh_132, e⟩ := ce_nmE e
          rw [← eh_132] at hH
          refine lv_iinc (v := x2 + (-1 : Int32)) (lv' := [(2, .int (x2 + (-1 : Int32))), (0, .ref (ad 68)), (1, .int x1)]) hx9 hb d12_builds_133 hl (k := 2) rfl rfl (by decide) rfl (fun ls hl => ?_)
          refine lv_goto (tgt := 45) hx9 hb d12_builds_136 (by decide) ?_
          exact ih (x2 + (-1 : Int32)) h_132 _ _ _ hH (lv_sub hl [1, 2, 0] rfl) e
def f12_builds_b7 (F : Nat) (x1 : Int32) (h : Hp) : Option ((Int32 × Hp) ⊕ (Hp)) :=
  if (h 68 29) ≤ x1 then
    some (.inr h)
  else
    if ce_in x1 12 = true then
      ce_nm (hp_up h 90 (x1).toNatClampNeg (-1 : Int32)) (fun h_21 =>
        if ce_in x1 12 = true then
          ce_nm (hp_up h_21 91 (x1).toNatClampNeg (-1 : Int32)) (fun h_28 =>
            if ce_in x1 12 = true then
              ce_nm (hp_up h_28 92 (x1).toNatClampNeg (-1 : Int32)) (fun h_35 =>
                if ce_in x1 12 = true then
                  Option.bind (ce_it (fun (st : Int32 × Hp) => f12_builds_b45 F x1 st.1 st.2) F ((h_35 86 (x1).toNatClampNeg) - (1 : Int32), h_35)) (fun o45 =>
                    if ce_in (o45 68 37) 13 = true then
                      ce_nm (hp_up o45 93 ((o45 68 37)).toNatClampNeg x1) (fun h_148 =>
                        ce_nm (hp_up h_148 68 37 ((h_148 68 37) + (1 : Int32))) (fun h_156 =>
                          some (.inl (x1 + (1 : Int32), h_156))))
                    else none)
                else none)
            else none)
        else none)
    else none
set_option maxRecDepth 20000 in
theorem l12_builds_7 (C : ce_Cx p s m args c meth b12_builds 3 none cn_12 D ad cA B0 (ce_St aK aV B0)) (F : Nat)   (r : Hp) (g : (Hp) → Option (Hp)) (hx : ∀  (h : Hp) (H : Heap) (locs : List Loc) (ls : Array Slot), ce_H D ad cA B0 [] s h H locs → lv_has ls 3 [] → g h = some r → W p l e0 { frames := 0, cells := 0, slots := 0, locals := 0 } s m args below meth c H locs 0 0 (MQ below (ce_Q D ad cA B0 (ce_St aK aV B0) none r) args s 0 0 (fun q => B0 ≤ q)) (F0 m 165 ls [])) : ∀ (n : Nat) (x1 : Int32) (h : Hp) (H : Heap) (locs : List Loc) (ls : Array Slot), ce_H D ad cA B0 [] s h H locs → lv_has ls 3 [(0, .ref (ad 68)), (1, .int x1)] → Option.bind (ce_it (fun (st : Int32 × Hp) => f12_builds_b7 F  st.1 st.2) n (x1, h)) g = some r → W p l e0 { frames := 0, cells := 0, slots := 0, locals := 0 } s m args below meth c H locs 0 0 (MQ below (ce_Q D ad cA B0 (ce_St aK aV B0) none r) args s 0 0 (fun q => B0 ≤ q)) (F0 m 7 ls []) := by
  intro n
  induction n with
  | zero =>
    intro x1 h H locs ls hH hl e
    exact absurd e (fun z => by cases z)
  | succ n ih =>
    intro x1 h H locs ls hH hl e
    have hx9 := C.1
    have hb := C.2.1
    have e : Option.bind (f12_builds_b7 F  x1 h) _ = some r := ce_it_bd e
    unfold f12_builds_b7 at e
    refine lv_iload_n hx9 hb d12_builds_7 rfl (lv_at hl 1 rfl) ?_
    refine lv_aload_n hx9 hb d12_builds_8 rfl (lv_at hl 0 rfl) ?_
    refine gf_12_338 C hH d12_builds_9 ?_
    refine lv_icmp_ge (tgt := 165) hx9 hb d12_builds_12 (by decide) (fun hc12 => ?_) (fun hc12 => ?_)
    · have e := ce_if1 e hc12
      exact hx  h _ _ _ hH (lv_sub hl [] rfl) e
    · have e := ce_if0 e hc12
      refine lv_aload_n hx9 hb d12_builds_15 rfl (lv_at hl 0 rfl) ?_
      refine gf_12_77 C hH d12_builds_16 ?_
      refine lv_iload_n hx9 hb d12_builds_19 rfl (lv_at hl 1 rfl) ?_
      refine lv_iconst (v := (-1 : Int32)) hx9 hb d12_builds_20 (by decide) ?_
      obtain ⟨hi21, e⟩ := ce_gd e
      refine ce_iast C hH lc_90.1 lc_90.2 (ce_in_vp hi21) d12_builds_21 (fun H locs hH => ?_)
      obtain ⟨h_21, eh_21, e⟩ := ce_nmE e
      rw [← eh_21] at hH
      refine lv_aload_n hx9 hb d12_builds_22 rfl (lv_at hl 0 rfl) ?_
      refine gf_12_80 C hH d12_builds_23 ?_
      refine lv_iload_n hx9 hb d12_builds_26 rfl (lv_at hl 1 rfl) ?_
      refine lv_iconst (v := (-1 : Int32)) hx9 hb d12_builds_27 (by decide) ?_
      obtain ⟨hi28, e⟩ := ce_gd e
      refine ce_iast C hH lc_91.1 lc_91.2 (ce_in_vp hi28) d12_builds_28 (fun H locs hH => ?_)
      obtain ⟨h_28, eh_28, e⟩ := ce_nmE e
      rw [← eh_28] at hH
      refine lv_aload_n hx9 hb d12_builds_29 rfl (lv_at hl 0 rfl) ?_
      refine gf_12_83 C hH d12_builds_30 ?_
      refine lv_iload_n hx9 hb d12_builds_33 rfl (lv_at hl 1 rfl) ?_
      refine lv_iconst (v := (-1 : Int32)) hx9 hb d12_builds_34 (by decide) ?_
      obtain ⟨hi35, e⟩ := ce_gd e
      refine ce_iast C hH lc_92.1 lc_92.2 (ce_in_vp hi35) d12_builds_35 (fun H locs hH => ?_)
      obtain ⟨h_35, eh_35, e⟩ := ce_nmE e
      rw [← eh_35] at hH
      refine lv_aload_n hx9 hb d12_builds_36 rfl (lv_at hl 0 rfl) ?_
      refine gf_12_65 C hH d12_builds_37 ?_
      refine lv_iload_n hx9 hb d12_builds_40 rfl (lv_at hl 1 rfl) ?_
      obtain ⟨hi41, e⟩ := ce_gd e
      refine ce_iald C hH lc_86.1 lc_86.2 (ce_in_vp hi41) d12_builds_41 ?_
      refine lv_iconst (v := (1 : Int32)) hx9 hb d12_builds_42 (by decide) ?_
      refine lv_isub hx9 hb d12_builds_43 ?_
      refine lv_istore_n (lv' := [(2, .int ((h_35 86 (x1).toNatClampNeg) - (1 : Int32))), (0, .ref (ad 68)), (1, .int x1)]) hx9 hb d12_builds_44 rfl hl (by decide) rfl (fun ls hl => ?_)
      refine l12_builds_45 C F x1  r _ (fun  h_45 H locs ls hH hl e => ?_) F ((h_35 86 (x1).toNatClampNeg) - (1 : Int32)) h_35 _ _ _ hH (lv_sub hl [1, 2, 0] rfl) (ce_as e)
      try dsimp only at e
      refine lv_aload_n hx9 hb d12_builds_139 rfl (lv_at hl 0 rfl) ?_
      refine gf_12_86 C hH d12_builds_140 ?_
      refine lv_aload_n hx9 hb d12_builds_143 rfl (lv_at hl 0 rfl) ?_
      refine gf_12_326 C hH d12_builds_144 ?_
      refine lv_iload_n hx9 hb d12_builds_147 rfl (lv_at hl 1 rfl) ?_
      obtain ⟨hi148, e⟩ := ce_gd e
      refine ce_iast C hH lc_93.1 lc_93.2 (ce_in_vp hi148) d12_builds_148 (fun H locs hH => ?_)
      obtain ⟨h_148, eh_148, e⟩ := ce_nmE e
      rw [← eh_148] at hH
      refine lv_aload_n hx9 hb d12_builds_149 rfl (lv_at hl 0 rfl) ?_
      refine lv_dup hx9 hb d12_builds_150 rfl ?_
      refine gf_12_326 C hH d12_builds_151 ?_
      refine lv_iconst (v := (1 : Int32)) hx9 hb d12_builds_154 (by decide) ?_
      refine lv_iadd hx9 hb d12_builds_155 ?_
      refine pf_12_326 C hH d12_builds_156 (fun H locs hH => ?_)
      obtain ⟨h_156, eh_156, e⟩ := ce_nmE e
      rw [← eh_156] at hH
      refine lv_iinc (v := x1 + (1 : Int32)) (lv' := [(1, .int (x1 + (1 : Int32))), (0, .ref (ad 68))]) hx9 hb d12_builds_159 hl (k := 1) rfl rfl (by decide) rfl (fun ls hl => ?_)
      refine lv_goto (tgt := 7) hx9 hb d12_builds_162 (by decide) ?_
      exact ih (x1 + (1 : Int32)) h_156 _ _ _ hH (lv_sub hl [1, 0] rfl) e
def f12_builds (F : Nat)  (h : Hp) : Option (Hp) :=
  ce_nm (hp_up h 68 37 (0 : Int32)) (fun h_2 =>
    Option.bind (ce_it (fun (st : Int32 × Hp) => f12_builds_b7 F  st.1 st.2) F ((0 : Int32), h_2)) (fun o7 =>
      some o7))
set_option maxRecDepth 20000 in
theorem c12_builds (l : Launch) (D : va_G) (ad : Nat → Nat) (cA : Nat → ClassId) (aK aV : Nat → Nat) (B0 : Nat) (hA : ce_Ad ad B0) (F : Nat)   (h : Hp) (r : Hp) (e : f12_builds F  h = some r) : ce_Ct l D ad cA B0 (ce_St aK aV B0) y12_builds b12_builds 3 none 0 0 0 0 [.ref (ad 68)] h none r := by
  refine ce_enter hA (by decide) rfl (Nat.le_of_ble_eq_true rfl) (fun p e0 s m below meth c ls C hH hl => ?_)
  have hl : lv_has ls 3 [(0, .ref (ad 68))] := hl
  have hx := C.1
  have hb := C.2.1
  have e : Option.bind _ some = some r := (congrArg (fun z => Option.bind z some) e).trans rfl
  unfold f12_builds at e
  refine lv_aload_n hx hb d12_builds_0 rfl (lv_at hl 0 rfl) ?_
  refine lv_iconst (v := (0 : Int32)) hx hb d12_builds_1 (by decide) ?_
  refine pf_12_326 C hH d12_builds_2 (fun H locs hH => ?_)
  obtain ⟨h_2, eh_2, e⟩ := ce_nmE e
  rw [← eh_2] at hH
  refine lv_iconst (v := (0 : Int32)) hx hb d12_builds_5 (by decide) ?_
  refine lv_istore_n (lv' := [(1, .int (0 : Int32)), (0, .ref (ad 68))]) hx hb d12_builds_6 rfl hl (by decide) rfl (fun ls hl => ?_)
  refine l12_builds_7 C F   r _ (fun  h_7 H locs ls hH hl e => ?_) F (0 : Int32) h_2 _ _ _ hH (lv_sub hl [1, 0] rfl) (ce_as e)
  try dsimp only at e
  exact ce_vret C (ce_sok aK aV B0) hH (Option.some.inj e) d12_builds_165
end C17
