-- C9: functions and contracts, written by wip/whole/gen (mgen.py, walk.py, walk2.py) out of the bytecode
section C9
variable {p : Program} {l : Launch} {e0 : Env} {R : Room} {s : State} {m : MethodId} {args : Array Value} {below : List Frame} {meth : Method} {c : Code} {H : Heap} {locs : List Loc} {cells slots : Nat} {Q : State → Prop}
variable {cc : ByteArray} {pc nL : Nat} {ret : Option FieldType} {ls : Array Slot} {rest : List Value} {D : va_G} {ad : Nat → Nat} {cA : Nat → ClassId} {B0 : Nat} {X : va_W} {h : Hp} {aK aV : Nat → Nat}
abbrev b11_centre : ByteArray := prog_1_method_23_code
def y11_centre : MethodName := ⟨cn_11, "centre", "(I)I"⟩
theorem d11_centre_0 : decode b11_centre 0 = .ok (.aload_n 0, 1) := by decide +kernel
theorem d11_centre_1 : decode b11_centre 1 = .ok (.iload_n 1, 1) := by decide +kernel
theorem d11_centre_2 : decode b11_centre 2 = .ok (.invokevirtual 169, 3) := by decide +kernel
theorem d11_centre_5 : decode b11_centre 5 = .ok (.istore_n 2, 1) := by decide +kernel
theorem d11_centre_6 : decode b11_centre 6 = .ok (.iload_n 2, 1) := by decide +kernel
theorem d11_centre_7 : decode b11_centre 7 = .ok (.ifCond .eq 5, 3) := by decide +kernel
theorem d11_centre_10 : decode b11_centre 10 = .ok (.iload_n 2, 1) := by decide +kernel
theorem d11_centre_11 : decode b11_centre 11 = .ok (.ireturn, 1) := by decide +kernel
theorem d11_centre_12 : decode b11_centre 12 = .ok (.iconst (-1), 1) := by decide +kernel
theorem d11_centre_13 : decode b11_centre 13 = .ok (.istore_n 3, 1) := by decide +kernel
theorem d11_centre_14 : decode b11_centre 14 = .ok (.ldc 228, 2) := by decide +kernel
theorem d11_centre_16 : decode b11_centre 16 = .ok (.istore 4, 2) := by decide +kernel
theorem d11_centre_18 : decode b11_centre 18 = .ok (.iconst 0, 1) := by decide +kernel
theorem d11_centre_19 : decode b11_centre 19 = .ok (.istore 5, 2) := by decide +kernel
theorem d11_centre_21 : decode b11_centre 21 = .ok (.iload 5, 2) := by decide +kernel
theorem d11_centre_23 : decode b11_centre 23 = .ok (.aload_n 0, 1) := by decide +kernel
theorem d11_centre_24 : decode b11_centre 24 = .ok (.getfield 26, 3) := by decide +kernel
theorem d11_centre_27 : decode b11_centre 27 = .ok (.getfield 125, 3) := by decide +kernel
theorem d11_centre_30 : decode b11_centre 30 = .ok (.if_icmp .ge 59, 3) := by decide +kernel
theorem d11_centre_33 : decode b11_centre 33 = .ok (.aload_n 0, 1) := by decide +kernel
theorem d11_centre_34 : decode b11_centre 34 = .ok (.getfield 60, 3) := by decide +kernel
theorem d11_centre_37 : decode b11_centre 37 = .ok (.iload_n 1, 1) := by decide +kernel
theorem d11_centre_38 : decode b11_centre 38 = .ok (.iload 5, 2) := by decide +kernel
theorem d11_centre_40 : decode b11_centre 40 = .ok (.invokevirtual 229, 3) := by decide +kernel
theorem d11_centre_43 : decode b11_centre 43 = .ok (.ifCond .eq 40, 3) := by decide +kernel
theorem d11_centre_46 : decode b11_centre 46 = .ok (.aload_n 0, 1) := by decide +kernel
theorem d11_centre_47 : decode b11_centre 47 = .ok (.getfield 53, 3) := by decide +kernel
theorem d11_centre_50 : decode b11_centre 50 = .ok (.aload_n 0, 1) := by decide +kernel
theorem d11_centre_51 : decode b11_centre 51 = .ok (.getfield 26, 3) := by decide +kernel
theorem d11_centre_54 : decode b11_centre 54 = .ok (.iload 5, 2) := by decide +kernel
theorem d11_centre_56 : decode b11_centre 56 = .ok (.iconst (-1), 1) := by decide +kernel
theorem d11_centre_57 : decode b11_centre 57 = .ok (.invokevirtual 212, 3) := by decide +kernel
theorem d11_centre_60 : decode b11_centre 60 = .ok (.aload_n 0, 1) := by decide +kernel
theorem d11_centre_61 : decode b11_centre 61 = .ok (.getfield 53, 3) := by decide +kernel
theorem d11_centre_64 : decode b11_centre 64 = .ok (.invokevirtual 232, 3) := by decide +kernel
theorem d11_centre_67 : decode b11_centre 67 = .ok (.istore 6, 2) := by decide +kernel
theorem d11_centre_69 : decode b11_centre 69 = .ok (.iload 6, 2) := by decide +kernel
theorem d11_centre_71 : decode b11_centre 71 = .ok (.iload 4, 2) := by decide +kernel
theorem d11_centre_73 : decode b11_centre 73 = .ok (.if_icmp .ge 10, 3) := by decide +kernel
theorem d11_centre_76 : decode b11_centre 76 = .ok (.iload 6, 2) := by decide +kernel
theorem d11_centre_78 : decode b11_centre 78 = .ok (.istore 4, 2) := by decide +kernel
theorem d11_centre_80 : decode b11_centre 80 = .ok (.iload 5, 2) := by decide +kernel
theorem d11_centre_82 : decode b11_centre 82 = .ok (.istore_n 3, 1) := by decide +kernel
theorem d11_centre_83 : decode b11_centre 83 = .ok (.iinc 5 1, 3) := by decide +kernel
theorem d11_centre_86 : decode b11_centre 86 = .ok (.goto (-65), 3) := by decide +kernel
theorem d11_centre_89 : decode b11_centre 89 = .ok (.iload_n 3, 1) := by decide +kernel
theorem d11_centre_90 : decode b11_centre 90 = .ok (.ireturn, 1) := by decide +kernel
theorem mk_11_228 : Cond.constant cn_11 228 (1000000) ∈ ce_cm := ce_cm_of (List.mem_of_getElem? (i := 935) (by decide +kernel)) (by decide +kernel)
def f11_centre_b21 (F : Nat) (x1 : Int32) (x3 : Int32) (x4 : Int32) (x5 : Int32) (h : Hp) : Option ((Int32 × Int32 × Int32 × Hp) ⊕ (Int32 × Hp)) :=
  ce_nm ((h 0 2).toNatClampNeg) (fun k_24 => if ce_isNet k_24 then
    if (h k_24 3) ≤ x5 then
      some (.inr (x3, h))
    else
      Option.bind (f2_areOne F x1 x5 h) (fun o40 =>
        if o40.1 = 0 then
          some (.inl (x3, x4, x5 + (1 : Int32), o40.2))
        else
          ce_nm ((o40.2 0 2).toNatClampNeg) (fun k_51 => if ce_isNet k_51 then
            Option.bind (f10_start F k_51 x5 (-1 : Int32) o40.2) (fun o57 =>
              Option.bind (f10_farthest F  o57) (fun o64 =>
                if x4 ≤ o64.1 then
                  some (.inl (x3, x4, x5 + (1 : Int32), o64.2))
                else
                  some (.inl (x5, o64.1, x5 + (1 : Int32), o64.2))))
          else none))
  else none)
set_option maxRecDepth 20000 in
theorem l11_centre_21 (C : ce_Cx p s m args c meth b11_centre 7 (some .int) cn_11 D ad cA B0 (ce_St aK aV B0)) (F : Nat) (x1 : Int32)  (r : Int32 × Hp) (g : (Int32 × Hp) → Option (Int32 × Hp)) (hx : ∀ (x3 : Int32) (h : Hp) (H : Heap) (locs : List Loc) (ls : Array Slot), ce_H D ad cA B0 [] s h H locs → lv_has ls 7 [(3, .int x3)] → g (x3, h) = some r → W p l e0 { frames := 4, cells := 0, slots := 0, locals := 84 } s m args below meth c H locs 0 0 (MQ below (ce_Q D ad cA B0 (ce_St aK aV B0) (some (.int r.1)) r.2) args s 0 0 (fun q => B0 ≤ q)) (F0 m 89 ls [])) : ∀ (n : Nat) (x3 : Int32) (x4 : Int32) (x5 : Int32) (h : Hp) (H : Heap) (locs : List Loc) (ls : Array Slot), ce_H D ad cA B0 [] s h H locs → lv_has ls 7 [(0, .ref (ad 0)), (1, .int x1), (3, .int x3), (4, .int x4), (5, .int x5)] → Option.bind (ce_it (fun (st : Int32 × Int32 × Int32 × Hp) => f11_centre_b21 F x1 st.1 st.2.1 st.2.2.1 st.2.2.2) n (x3, x4, x5, h)) g = some r → W p l e0 { frames := 4, cells := 0, slots := 0, locals := 84 } s m args below meth c H locs 0 0 (MQ below (ce_Q D ad cA B0 (ce_St aK aV B0) (some (.int r.1)) r.2) args s 0 0 (fun q => B0 ≤ q)) (F0 m 21 ls []) := by
  intro n
  induction n with
  | zero =>
    intro x3 x4 x5 h H locs ls hH hl e
    exact absurd e (fun z => by cases z)
  | succ n ih =>
    intro x3 x4 x5 h H locs ls hH hl e
    have hx9 := C.1
    have hb := C.2.1
    have e : Option.bind (f11_centre_b21 F x1 x3 x4 x5 h) _ = some r := ce_it_bd e
    unfold f11_centre_b21 at e
    refine lv_iload hx9 hb d11_centre_21 (lv_at hl 4 rfl) ?_
    refine lv_aload_n hx9 hb d11_centre_23 rfl (lv_at hl 0 rfl) ?_
    refine gf_11_26 C hH d11_centre_24 ?_
    obtain ⟨k_24, ek_24, e⟩ := ce_nmE e
    obtain ⟨hk_24, e⟩ := ce_gd e
    rw [← ek_24]
    refine gf_11_125 C hH hk_24 d11_centre_27 ?_
    refine lv_icmp_ge (tgt := 89) hx9 hb d11_centre_30 (by decide) (fun hc30 => ?_) (fun hc30 => ?_)
    · have e := ce_if1 e hc30
      exact hx x3 h _ _ _ hH (lv_sub hl [2] rfl) e
    · have e := ce_if0 e hc30
      refine lv_aload_n hx9 hb d11_centre_33 rfl (lv_at hl 0 rfl) ?_
      refine gf_11_60 C hH d11_centre_34 ?_
      refine lv_iload_n hx9 hb d11_centre_37 rfl (lv_at hl 1 rfl) ?_
      refine lv_iload hx9 hb d11_centre_38 (lv_at hl 4 rfl) ?_
      obtain ⟨o40, eo40, e⟩ := ce_bd e
      refine ce_callV (As := [.int x1, .int x5]) (rest := []) C (ce_sok aK aV B0) hH (c2_areOne l D ad cA aK aV B0 C.2.2.2.2.2.2.1 F x1 x5  h o40 eo40) lo_44.1 lo_44.2.choose_spec rfl rfl mc2_areOne ml_11_229 mi2_areOne ms2_areOne mI_2 (n := 2) (by decide) rfl ⟨Nat.le_of_ble_eq_true rfl, Nat.le_of_ble_eq_true rfl⟩ ⟨Nat.le_of_ble_eq_true rfl, Nat.le_of_ble_eq_true rfl⟩ hl.1 rfl (Nat.le_of_ble_eq_true rfl) d11_centre_40 (fun H locs hH => ?_)
      refine W.eq (g2 := F0 m 43 ls [.int o40.1]) rfl ?_
      refine lv_if_eq (tgt := 83) hx9 hb d11_centre_43 (by decide) (fun hc43 => ?_) (fun hc43 => ?_)
      · have e := ce_if1 e hc43
        refine lv_iinc (v := x5 + (1 : Int32)) (lv' := [(5, .int (x5 + (1 : Int32))), (0, .ref (ad 0)), (1, .int x1), (3, .int x3), (4, .int x4)]) hx9 hb d11_centre_83 hl (k := 4) rfl rfl (by decide) rfl (fun ls hl => ?_)
        refine lv_goto (tgt := 21) hx9 hb d11_centre_86 (by decide) ?_
        exact ih x3 x4 (x5 + (1 : Int32)) o40.2 _ _ _ hH (lv_sub hl [1, 2, 3, 4, 0] rfl) e
      · have e := ce_if0 e hc43
        refine lv_aload_n hx9 hb d11_centre_46 rfl (lv_at hl 0 rfl) ?_
        refine gf_11_53 C hH d11_centre_47 ?_
        refine lv_aload_n hx9 hb d11_centre_50 rfl (lv_at hl 0 rfl) ?_
        refine gf_11_26 C hH d11_centre_51 ?_
        obtain ⟨k_51, ek_51, e⟩ := ce_nmE e
        obtain ⟨hk_51, e⟩ := ce_gd e
        rw [← ek_51]
        refine lv_iload hx9 hb d11_centre_54 (lv_at hl 4 rfl) ?_
        refine lv_iconst (v := (-1 : Int32)) hx9 hb d11_centre_56 (by decide) ?_
        obtain ⟨o57, eo57, e⟩ := ce_bd e
        refine ce_callV (As := [.ref (ad k_51), .int x5, .int (-1 : Int32)]) (rest := []) C (ce_sok aK aV B0) hH (c10_start l D ad cA aK aV B0 C.2.2.2.2.2.2.1 F k_51 x5 (-1 : Int32) hk_51 o40.2 o57 eo57) lo_40.1 lo_40.2.choose_spec rfl rfl mc10_start ml_11_212 mi10_start ms10_start mI_10 (n := 3) (by decide) rfl ⟨Nat.le_of_ble_eq_true rfl, Nat.le_of_ble_eq_true rfl⟩ ⟨Nat.le_of_ble_eq_true rfl, Nat.le_of_ble_eq_true rfl⟩ hl.1 rfl (Nat.le_of_ble_eq_true rfl) d11_centre_57 (fun H locs hH => ?_)
        refine W.eq (g2 := F0 m 60 ls []) rfl ?_
        refine lv_aload_n hx9 hb d11_centre_60 rfl (lv_at hl 0 rfl) ?_
        refine gf_11_53 C hH d11_centre_61 ?_
        obtain ⟨o64, eo64, e⟩ := ce_bd e
        refine ce_callV (As := []) (rest := []) C (ce_sok aK aV B0) hH (c10_farthest l D ad cA aK aV B0 C.2.2.2.2.2.2.1 F   o57 o64 eo64) lo_40.1 lo_40.2.choose_spec rfl rfl mc10_farthest ml_11_232 mi10_farthest ms10_farthest mI_10 (n := 0) (by decide) rfl ⟨Nat.le_of_ble_eq_true rfl, Nat.le_of_ble_eq_true rfl⟩ ⟨Nat.le_of_ble_eq_true rfl, Nat.le_of_ble_eq_true rfl⟩ hl.1 rfl (Nat.le_of_ble_eq_true rfl) d11_centre_64 (fun H locs hH => ?_)
        refine W.eq (g2 := F0 m 67 ls [.int o64.1]) rfl ?_
        refine lv_istore (lv' := [(6, .int o64.1), (0, .ref (ad 0)), (1, .int x1), (3, .int x3), (4, .int x4), (5, .int x5)]) hx9 hb d11_centre_67 hl (by decide) rfl (fun ls hl => ?_)
        refine lv_iload hx9 hb d11_centre_69 (lv_at hl 0 rfl) ?_
        refine lv_iload hx9 hb d11_centre_71 (lv_at hl 4 rfl) ?_
        refine lv_icmp_ge (tgt := 83) hx9 hb d11_centre_73 (by decide) (fun hc73 => ?_) (fun hc73 => ?_)
        · have e := ce_if1 e hc73
          refine lv_iinc (v := x5 + (1 : Int32)) (lv' := [(5, .int (x5 + (1 : Int32))), (6, .int o64.1), (0, .ref (ad 0)), (1, .int x1), (3, .int x3), (4, .int x4)]) hx9 hb d11_centre_83 hl (k := 5) rfl rfl (by decide) rfl (fun ls hl => ?_)
          refine lv_goto (tgt := 21) hx9 hb d11_centre_86 (by decide) ?_
          exact ih x3 x4 (x5 + (1 : Int32)) o64.2 _ _ _ hH (lv_sub hl [2, 3, 4, 5, 0] rfl) e
        · have e := ce_if0 e hc73
          refine lv_iload hx9 hb d11_centre_76 (lv_at hl 0 rfl) ?_
          refine lv_istore (lv' := [(4, .int o64.1), (6, .int o64.1), (0, .ref (ad 0)), (1, .int x1), (3, .int x3), (5, .int x5)]) hx9 hb d11_centre_78 hl (by decide) rfl (fun ls hl => ?_)
          refine lv_iload hx9 hb d11_centre_80 (lv_at hl 5 rfl) ?_
          refine lv_istore_n (lv' := [(3, .int x5), (4, .int o64.1), (6, .int o64.1), (0, .ref (ad 0)), (1, .int x1), (5, .int x5)]) hx9 hb d11_centre_82 rfl hl (by decide) rfl (fun ls hl => ?_)
          refine lv_iinc (v := x5 + (1 : Int32)) (lv' := [(5, .int (x5 + (1 : Int32))), (3, .int x5), (4, .int o64.1), (6, .int o64.1), (0, .ref (ad 0)), (1, .int x1)]) hx9 hb d11_centre_83 hl (k := 5) rfl rfl (by decide) rfl (fun ls hl => ?_)
          refine lv_goto (tgt := 21) hx9 hb d11_centre_86 (by decide) ?_
          exact ih x5 o64.1 (x5 + (1 : Int32)) o64.2 _ _ _ hH (lv_sub hl [4, 5, 1, 2, 0] rfl) e
def f11_centre (F : Nat) (x1 : Int32) (h : Hp) : Option (Int32 × Hp) :=
  Option.bind (f11_refusalOf F x1 h) (fun o2 =>
    if o2.1 = 0 then
      Option.bind (ce_it (fun (st : Int32 × Int32 × Int32 × Hp) => f11_centre_b21 F x1 st.1 st.2.1 st.2.2.1 st.2.2.2) F ((-1 : Int32), (1000000 : Int32), (0 : Int32), o2.2)) (fun o21 =>
        some (o21.1, o21.2))
    else
      some (o2.1, o2.2))
set_option maxRecDepth 20000 in
theorem c11_centre (l : Launch) (D : va_G) (ad : Nat → Nat) (cA : Nat → ClassId) (aK aV : Nat → Nat) (B0 : Nat) (hA : ce_Ad ad B0) (F : Nat) (x1 : Int32)  (h : Hp) (r : Int32 × Hp) (e : f11_centre F x1 h = some r) : ce_Ct l D ad cA B0 (ce_St aK aV B0) y11_centre b11_centre 7 (some .int) 4 84 0 0 [.ref (ad 0), .int x1] h (some (.int r.1)) r.2 := by
  refine ce_enter hA (by decide) rfl (Nat.le_of_ble_eq_true rfl) (fun p e0 s m below meth c ls C hH hl => ?_)
  have hl : lv_has ls 7 [(0, .ref (ad 0)), (1, .int x1)] := hl
  have hx := C.1
  have hb := C.2.1
  have e : Option.bind _ some = some r := (congrArg (fun z => Option.bind z some) e).trans rfl
  unfold f11_centre at e
  refine lv_aload_n hx hb d11_centre_0 rfl (lv_at hl 0 rfl) ?_
  refine lv_iload_n hx hb d11_centre_1 rfl (lv_at hl 1 rfl) ?_
  obtain ⟨o2, eo2, e⟩ := ce_bd e
  refine ce_callV (As := [.int x1]) (rest := []) C (ce_sok aK aV B0) hH (c11_refusalOf l D ad cA aK aV B0 C.2.2.2.2.2.2.1 F x1  h o2 eo2) lo_0.1 lo_0.2.choose_spec rfl rfl mc11_refusalOf ml_11_169 mi11_refusalOf ms11_refusalOf mI_11 (n := 1) (by decide) rfl ⟨Nat.le_of_ble_eq_true rfl, Nat.le_of_ble_eq_true rfl⟩ ⟨Nat.le_of_ble_eq_true rfl, Nat.le_of_ble_eq_true rfl⟩ hl.1 rfl (Nat.le_of_ble_eq_true rfl) d11_centre_2 (fun H locs hH => ?_)
  refine W.eq (g2 := F0 m 5 ls [.int o2.1]) rfl ?_
  refine lv_istore_n (lv' := [(2, .int o2.1), (0, .ref (ad 0)), (1, .int x1)]) hx hb d11_centre_5 rfl hl (by decide) rfl (fun ls hl => ?_)
  refine lv_iload_n hx hb d11_centre_6 rfl (lv_at hl 0 rfl) ?_
  refine lv_if_eq (tgt := 12) hx hb d11_centre_7 (by decide) (fun hc7 => ?_) (fun hc7 => ?_)
  · have e := ce_if1 e hc7
    refine lv_iconst (v := (-1 : Int32)) hx hb d11_centre_12 (by decide) ?_
    refine lv_istore_n (lv' := [(3, .int (-1 : Int32)), (2, .int o2.1), (0, .ref (ad 0)), (1, .int x1)]) hx hb d11_centre_13 rfl hl (by decide) rfl (fun ls hl => ?_)
    refine lv_ldc (v := (1000000 : Int32)) hx hb C.2.2.2.1 (C.2.2.2.2.1 _ mk_11_228) d11_centre_14 ?_
    refine lv_istore (lv' := [(4, .int (1000000 : Int32)), (3, .int (-1 : Int32)), (2, .int o2.1), (0, .ref (ad 0)), (1, .int x1)]) hx hb d11_centre_16 hl (by decide) rfl (fun ls hl => ?_)
    refine lv_iconst (v := (0 : Int32)) hx hb d11_centre_18 (by decide) ?_
    refine lv_istore (lv' := [(5, .int (0 : Int32)), (4, .int (1000000 : Int32)), (3, .int (-1 : Int32)), (2, .int o2.1), (0, .ref (ad 0)), (1, .int x1)]) hx hb d11_centre_19 hl (by decide) rfl (fun ls hl => ?_)
    refine l11_centre_21 C F x1  r _ (fun y21_3 h_21 H locs ls hH hl e => ?_) F (-1 : Int32) (1000000 : Int32) (0 : Int32) o2.2 _ _ _ hH (lv_sub hl [4, 5, 2, 1, 0] rfl) (ce_as e)
    try dsimp only at e
    refine lv_iload_n hx hb d11_centre_89 rfl (lv_at hl 0 rfl) ?_
    exact ce_iretE C (ce_sok aK aV B0) hH e d11_centre_90
  · have e := ce_if0 e hc7
    refine lv_iload_n hx hb d11_centre_10 rfl (lv_at hl 0 rfl) ?_
    exact ce_iretE C (ce_sok aK aV B0) hH e d11_centre_11
abbrev b11_letterOf : ByteArray := prog_1_method_46_code
def y11_letterOf : MethodName := ⟨cn_11, "letterOf", "(II)I"⟩
theorem d11_letterOf_0 : decode b11_letterOf 0 = .ok (.aload_n 0, 1) := by decide +kernel
theorem d11_letterOf_1 : decode b11_letterOf 1 = .ok (.getfield 26, 3) := by decide +kernel
theorem d11_letterOf_4 : decode b11_letterOf 4 = .ok (.iload_n 1, 1) := by decide +kernel
theorem d11_letterOf_5 : decode b11_letterOf 5 = .ok (.iload_n 2, 1) := by decide +kernel
theorem d11_letterOf_6 : decode b11_letterOf 6 = .ok (.invokevirtual 143, 3) := by decide +kernel
theorem d11_letterOf_9 : decode b11_letterOf 9 = .ok (.ifCond .ne 5, 3) := by decide +kernel
theorem d11_letterOf_12 : decode b11_letterOf 12 = .ok (.iconst (-1), 1) := by decide +kernel
theorem d11_letterOf_13 : decode b11_letterOf 13 = .ok (.ireturn, 1) := by decide +kernel
theorem d11_letterOf_14 : decode b11_letterOf 14 = .ok (.aload_n 0, 1) := by decide +kernel
theorem d11_letterOf_15 : decode b11_letterOf 15 = .ok (.getfield 67, 3) := by decide +kernel
theorem d11_letterOf_18 : decode b11_letterOf 18 = .ok (.aload_n 0, 1) := by decide +kernel
theorem d11_letterOf_19 : decode b11_letterOf 19 = .ok (.getfield 26, 3) := by decide +kernel
theorem d11_letterOf_22 : decode b11_letterOf 22 = .ok (.iload_n 1, 1) := by decide +kernel
theorem d11_letterOf_23 : decode b11_letterOf 23 = .ok (.iload_n 2, 1) := by decide +kernel
theorem d11_letterOf_24 : decode b11_letterOf 24 = .ok (.invokestatic 147, 3) := by decide +kernel
theorem d11_letterOf_27 : decode b11_letterOf 27 = .ok (.invokevirtual 155, 3) := by decide +kernel
theorem d11_letterOf_30 : decode b11_letterOf 30 = .ok (.istore_n 3, 1) := by decide +kernel
theorem d11_letterOf_31 : decode b11_letterOf 31 = .ok (.iload_n 3, 1) := by decide +kernel
theorem d11_letterOf_32 : decode b11_letterOf 32 = .ok (.ifCond .ne 5, 3) := by decide +kernel
theorem d11_letterOf_35 : decode b11_letterOf 35 = .ok (.iconst 0, 1) := by decide +kernel
theorem d11_letterOf_36 : decode b11_letterOf 36 = .ok (.ireturn, 1) := by decide +kernel
theorem d11_letterOf_37 : decode b11_letterOf 37 = .ok (.iload_n 3, 1) := by decide +kernel
theorem d11_letterOf_38 : decode b11_letterOf 38 = .ok (.iconst 1, 1) := by decide +kernel
theorem d11_letterOf_39 : decode b11_letterOf 39 = .ok (.if_icmp .ne 7, 3) := by decide +kernel
theorem d11_letterOf_42 : decode b11_letterOf 42 = .ok (.iconst 1, 1) := by decide +kernel
theorem d11_letterOf_43 : decode b11_letterOf 43 = .ok (.goto 4, 3) := by decide +kernel
theorem d11_letterOf_46 : decode b11_letterOf 46 = .ok (.iconst 2, 1) := by decide +kernel
theorem d11_letterOf_47 : decode b11_letterOf 47 = .ok (.ireturn, 1) := by decide +kernel
def f11_letterOf (F : Nat) (x1 : Int32) (x2 : Int32) (h : Hp) : Option (Int32 × Hp) :=
  ce_nm ((h 0 2).toNatClampNeg) (fun k_1 => if ce_isNet k_1 then
    Option.bind (f5_hasPort F k_1 x1 x2 h) (fun o6 =>
      if o6.1 = 0 then
        some ((-1 : Int32), o6.2)
      else
        ce_nm ((o6.2 0 2).toNatClampNeg) (fun k_19 => if ce_isNet k_19 then
          Option.bind (f11_endOf F x1 x2 o6.2) (fun o24 =>
            Option.bind (f3_roleOf F 48 k_19 o24.1 o24.2) (fun o27 =>
              if o27.1 = 0 then
                some ((0 : Int32), o27.2)
              else
                if o27.1 = (1 : Int32) then
                  some ((1 : Int32), o27.2)
                else
                  some ((2 : Int32), o27.2)))
        else none))
  else none)
set_option maxRecDepth 20000 in
theorem c11_letterOf (l : Launch) (D : va_G) (ad : Nat → Nat) (cA : Nat → ClassId) (aK aV : Nat → Nat) (B0 : Nat) (hA : ce_Ad ad B0) (F : Nat) (x1 : Int32) (x2 : Int32)  (h : Hp) (r : Int32 × Hp) (e : f11_letterOf F x1 x2 h = some r) : ce_Ct l D ad cA B0 (ce_St aK aV B0) y11_letterOf b11_letterOf 4 (some .int) 2 44 0 0 [.ref (ad 0), .int x1, .int x2] h (some (.int r.1)) r.2 := by
  refine ce_enter hA (by decide) rfl (Nat.le_of_ble_eq_true rfl) (fun p e0 s m below meth c ls C hH hl => ?_)
  have hl : lv_has ls 4 [(0, .ref (ad 0)), (1, .int x1), (2, .int x2)] := hl
  have hx := C.1
  have hb := C.2.1
  have e : Option.bind _ some = some r := (congrArg (fun z => Option.bind z some) e).trans rfl
  unfold f11_letterOf at e
  refine lv_aload_n hx hb d11_letterOf_0 rfl (lv_at hl 0 rfl) ?_
  refine gf_11_26 C hH d11_letterOf_1 ?_
  obtain ⟨k_1, ek_1, e⟩ := ce_nmE e
  obtain ⟨hk_1, e⟩ := ce_gd e
  rw [← ek_1]
  refine lv_iload_n hx hb d11_letterOf_4 rfl (lv_at hl 1 rfl) ?_
  refine lv_iload_n hx hb d11_letterOf_5 rfl (lv_at hl 2 rfl) ?_
  obtain ⟨o6, eo6, e⟩ := ce_bd e
  refine ce_callV (As := [.int x1, .int x2]) (rest := []) C (ce_sok aK aV B0) hH (c5_hasPort l D ad cA aK aV B0 C.2.2.2.2.2.2.1 F k_1 x1 x2 hk_1 h o6 eo6) (lk_Net hk_1).1 (lk_Net hk_1).2.choose_spec rfl rfl mc5_hasPort ml_11_143 mi5_hasPort ms5_hasPort mI_5 (n := 2) (by decide) rfl ⟨Nat.le_of_ble_eq_true rfl, Nat.le_of_ble_eq_true rfl⟩ ⟨Nat.le_of_ble_eq_true rfl, Nat.le_of_ble_eq_true rfl⟩ hl.1 rfl (Nat.le_of_ble_eq_true rfl) d11_letterOf_6 (fun H locs hH => ?_)
  refine W.eq (g2 := F0 m 9 ls [.int o6.1]) rfl ?_
  refine lv_if_ne (tgt := 14) hx hb d11_letterOf_9 (by decide) (fun hc9 => ?_) (fun hc9 => ?_)
  · have e := ce_if0 e hc9
    refine lv_aload_n hx hb d11_letterOf_14 rfl (lv_at hl 0 rfl) ?_
    refine gf_11_67 C hH d11_letterOf_15 ?_
    refine lv_aload_n hx hb d11_letterOf_18 rfl (lv_at hl 0 rfl) ?_
    refine gf_11_26 C hH d11_letterOf_19 ?_
    obtain ⟨k_19, ek_19, e⟩ := ce_nmE e
    obtain ⟨hk_19, e⟩ := ce_gd e
    rw [← ek_19]
    refine lv_iload_n hx hb d11_letterOf_22 rfl (lv_at hl 1 rfl) ?_
    refine lv_iload_n hx hb d11_letterOf_23 rfl (lv_at hl 2 rfl) ?_
    obtain ⟨o24, eo24, e⟩ := ce_bd e
    refine ce_callS (As := [.int x1, .int x2]) (rest := [.ref (ad k_19), .ref (ad 48)]) C (ce_sok aK aV B0) hH (c11_endOf l D ad cA aK aV B0 C.2.2.2.2.2.2.1 F x1 x2  o6.2 o24 eo24) mc11_endOf ml_11_147 mt11_endOf mI_11 (n := 2) (by decide) rfl ⟨Nat.le_of_ble_eq_true rfl, Nat.le_of_ble_eq_true rfl⟩ ⟨Nat.le_of_ble_eq_true rfl, Nat.le_of_ble_eq_true rfl⟩ hl.1 rfl (Nat.le_of_ble_eq_true rfl) d11_letterOf_24 (fun H locs hH => ?_)
    refine W.eq (g2 := F0 m 27 ls [.int o24.1, .ref (ad k_19), .ref (ad 48)]) rfl ?_
    obtain ⟨o27, eo27, e⟩ := ce_bd e
    refine ce_callV (As := [.ref (ad k_19), .int o24.1]) (rest := []) C (ce_sok aK aV B0) hH (c3_roleOf l D ad cA aK aV B0 C.2.2.2.2.2.2.1 F 48 k_19 o24.1 (Or.inl rfl) hk_19 o24.2 o27 eo27) (lk_El (Or.inl rfl)).1 (lk_El (Or.inl rfl)).2.choose_spec rfl rfl mc3_roleOf ml_11_155 mi3_roleOf ms3_roleOf mI_3 (n := 2) (by decide) rfl ⟨Nat.le_of_ble_eq_true rfl, Nat.le_of_ble_eq_true rfl⟩ ⟨Nat.le_of_ble_eq_true rfl, Nat.le_of_ble_eq_true rfl⟩ hl.1 rfl (Nat.le_of_ble_eq_true rfl) d11_letterOf_27 (fun H locs hH => ?_)
    refine W.eq (g2 := F0 m 30 ls [.int o27.1]) rfl ?_
    refine lv_istore_n (lv' := [(3, .int o27.1), (0, .ref (ad 0)), (1, .int x1), (2, .int x2)]) hx hb d11_letterOf_30 rfl hl (by decide) rfl (fun ls hl => ?_)
    refine lv_iload_n hx hb d11_letterOf_31 rfl (lv_at hl 0 rfl) ?_
    refine lv_if_ne (tgt := 37) hx hb d11_letterOf_32 (by decide) (fun hc32 => ?_) (fun hc32 => ?_)
    · have e := ce_if0 e hc32
      refine lv_iload_n hx hb d11_letterOf_37 rfl (lv_at hl 0 rfl) ?_
      refine lv_iconst (v := (1 : Int32)) hx hb d11_letterOf_38 (by decide) ?_
      refine lv_icmp_ne (tgt := 46) hx hb d11_letterOf_39 (by decide) (fun hc39 => ?_) (fun hc39 => ?_)
      · have e := ce_if0 e hc39
        refine lv_iconst (v := (2 : Int32)) hx hb d11_letterOf_46 (by decide) ?_
        exact ce_iretE C (ce_sok aK aV B0) hH e d11_letterOf_47
      · have e := ce_if1 e hc39
        refine lv_iconst (v := (1 : Int32)) hx hb d11_letterOf_42 (by decide) ?_
        refine lv_goto (tgt := 47) hx hb d11_letterOf_43 (by decide) ?_
        exact ce_iretE C (ce_sok aK aV B0) hH e d11_letterOf_47
    · have e := ce_if1 e hc32
      refine lv_iconst (v := (0 : Int32)) hx hb d11_letterOf_35 (by decide) ?_
      exact ce_iretE C (ce_sok aK aV B0) hH e d11_letterOf_36
  · have e := ce_if1 e hc9
    refine lv_iconst (v := (-1 : Int32)) hx hb d11_letterOf_12 (by decide) ?_
    exact ce_iretE C (ce_sok aK aV B0) hH e d11_letterOf_13
abbrev b11_packet : ByteArray := prog_1_method_24_code
def y11_packet : MethodName := ⟨cn_11, "packet", "(II)I"⟩
theorem d11_packet_0 : decode b11_packet 0 = .ok (.iload_n 2, 1) := by decide +kernel
theorem d11_packet_1 : decode b11_packet 1 = .ok (.ifCond .ge 6, 3) := by decide +kernel
theorem d11_packet_4 : decode b11_packet 4 = .ok (.bipush (-2), 2) := by decide +kernel
theorem d11_packet_6 : decode b11_packet 6 = .ok (.ireturn, 1) := by decide +kernel
theorem d11_packet_7 : decode b11_packet 7 = .ok (.aload_n 0, 1) := by decide +kernel
theorem d11_packet_8 : decode b11_packet 8 = .ok (.iload_n 1, 1) := by decide +kernel
theorem d11_packet_9 : decode b11_packet 9 = .ok (.invokevirtual 169, 3) := by decide +kernel
theorem d11_packet_12 : decode b11_packet 12 = .ok (.istore_n 3, 1) := by decide +kernel
theorem d11_packet_13 : decode b11_packet 13 = .ok (.iload_n 3, 1) := by decide +kernel
theorem d11_packet_14 : decode b11_packet 14 = .ok (.ifCond .eq 7, 3) := by decide +kernel
theorem d11_packet_17 : decode b11_packet 17 = .ok (.iload_n 3, 1) := by decide +kernel
theorem d11_packet_18 : decode b11_packet 18 = .ok (.goto 9, 3) := by decide +kernel
theorem d11_packet_21 : decode b11_packet 21 = .ok (.aload_n 0, 1) := by decide +kernel
theorem d11_packet_22 : decode b11_packet 22 = .ok (.iload_n 1, 1) := by decide +kernel
theorem d11_packet_23 : decode b11_packet 23 = .ok (.iload_n 2, 1) := by decide +kernel
theorem d11_packet_24 : decode b11_packet 24 = .ok (.invokevirtual 236, 3) := by decide +kernel
theorem d11_packet_27 : decode b11_packet 27 = .ok (.ireturn, 1) := by decide +kernel
theorem mc11_letterOf : Cond.code y11_letterOf b11_letterOf 4 (some .int) ∈ ce_cm := ce_cm_of (List.mem_of_getElem? (i := 943) (by decide +kernel)) (by decide +kernel)
theorem ml_11_236 : Cond.methodLink cn_11 236 y11_letterOf ∈ ce_cm := ce_cm_of (List.mem_of_getElem? (i := 940) (by decide +kernel)) (by decide +kernel)
theorem mi11_letterOf : Cond.instanceMethod y11_letterOf ∈ ce_cm := ce_cm_of (List.mem_of_getElem? (i := 942) (by decide +kernel)) (by decide +kernel)
theorem ms11_letterOf : Cond.selects cn_11 y11_letterOf y11_letterOf ∈ ce_cm := ce_cm_of (List.mem_of_getElem? (i := 23) (by decide +kernel)) (by decide +kernel)
def f11_packet (F : Nat) (x1 : Int32) (x2 : Int32) (h : Hp) : Option (Int32 × Hp) :=
  if 0 ≤ x2 then
    Option.bind (f11_refusalOf F x1 h) (fun o9 =>
      if o9.1 = 0 then
        Option.bind (f11_letterOf F x1 x2 o9.2) (fun o24 =>
          some (o24.1, o24.2))
      else
        some (o9.1, o9.2))
  else
    some ((-2 : Int32), h)
set_option maxRecDepth 20000 in
theorem c11_packet (l : Launch) (D : va_G) (ad : Nat → Nat) (cA : Nat → ClassId) (aK aV : Nat → Nat) (B0 : Nat) (hA : ce_Ad ad B0) (F : Nat) (x1 : Int32) (x2 : Int32)  (h : Hp) (r : Int32 × Hp) (e : f11_packet F x1 x2 h = some r) : ce_Ct l D ad cA B0 (ce_St aK aV B0) y11_packet b11_packet 4 (some .int) 4 84 0 0 [.ref (ad 0), .int x1, .int x2] h (some (.int r.1)) r.2 := by
  refine ce_enter hA (by decide) rfl (Nat.le_of_ble_eq_true rfl) (fun p e0 s m below meth c ls C hH hl => ?_)
  have hl : lv_has ls 4 [(0, .ref (ad 0)), (1, .int x1), (2, .int x2)] := hl
  have hx := C.1
  have hb := C.2.1
  have e : Option.bind _ some = some r := (congrArg (fun z => Option.bind z some) e).trans rfl
  unfold f11_packet at e
  refine lv_iload_n hx hb d11_packet_0 rfl (lv_at hl 2 rfl) ?_
  refine lv_if_ge (tgt := 7) hx hb d11_packet_1 (by decide) (fun hc1 => ?_) (fun hc1 => ?_)
  · have e := ce_if1 e hc1
    refine lv_aload_n hx hb d11_packet_7 rfl (lv_at hl 0 rfl) ?_
    refine lv_iload_n hx hb d11_packet_8 rfl (lv_at hl 1 rfl) ?_
    obtain ⟨o9, eo9, e⟩ := ce_bd e
    refine ce_callV (As := [.int x1]) (rest := []) C (ce_sok aK aV B0) hH (c11_refusalOf l D ad cA aK aV B0 C.2.2.2.2.2.2.1 F x1  h o9 eo9) lo_0.1 lo_0.2.choose_spec rfl rfl mc11_refusalOf ml_11_169 mi11_refusalOf ms11_refusalOf mI_11 (n := 1) (by decide) rfl ⟨Nat.le_of_ble_eq_true rfl, Nat.le_of_ble_eq_true rfl⟩ ⟨Nat.le_of_ble_eq_true rfl, Nat.le_of_ble_eq_true rfl⟩ hl.1 rfl (Nat.le_of_ble_eq_true rfl) d11_packet_9 (fun H locs hH => ?_)
    refine W.eq (g2 := F0 m 12 ls [.int o9.1]) rfl ?_
    refine lv_istore_n (lv' := [(3, .int o9.1), (0, .ref (ad 0)), (1, .int x1), (2, .int x2)]) hx hb d11_packet_12 rfl hl (by decide) rfl (fun ls hl => ?_)
    refine lv_iload_n hx hb d11_packet_13 rfl (lv_at hl 0 rfl) ?_
    refine lv_if_eq (tgt := 21) hx hb d11_packet_14 (by decide) (fun hc14 => ?_) (fun hc14 => ?_)
    · have e := ce_if1 e hc14
      refine lv_aload_n hx hb d11_packet_21 rfl (lv_at hl 1 rfl) ?_
      refine lv_iload_n hx hb d11_packet_22 rfl (lv_at hl 2 rfl) ?_
      refine lv_iload_n hx hb d11_packet_23 rfl (lv_at hl 3 rfl) ?_
      obtain ⟨o24, eo24, e⟩ := ce_bd e
      refine ce_callV (As := [.int x1, .int x2]) (rest := []) C (ce_sok aK aV B0) hH (c11_letterOf l D ad cA aK aV B0 C.2.2.2.2.2.2.1 F x1 x2  o9.2 o24 eo24) lo_0.1 lo_0.2.choose_spec rfl rfl mc11_letterOf ml_11_236 mi11_letterOf ms11_letterOf mI_11 (n := 2) (by decide) rfl ⟨Nat.le_of_ble_eq_true rfl, Nat.le_of_ble_eq_true rfl⟩ ⟨Nat.le_of_ble_eq_true rfl, Nat.le_of_ble_eq_true rfl⟩ hl.1 rfl (Nat.le_of_ble_eq_true rfl) d11_packet_24 (fun H locs hH => ?_)
      refine W.eq (g2 := F0 m 27 ls [.int o24.1]) rfl ?_
      exact ce_iretE C (ce_sok aK aV B0) hH e d11_packet_27
    · have e := ce_if0 e hc14
      refine lv_iload_n hx hb d11_packet_17 rfl (lv_at hl 0 rfl) ?_
      refine lv_goto (tgt := 27) hx hb d11_packet_18 (by decide) ?_
      exact ce_iretE C (ce_sok aK aV B0) hH e d11_packet_27
  · have e := ce_if0 e hc1
    refine lv_bipush (v := (-2 : Int32)) hx hb d11_packet_4 (by decide) ?_
    exact ce_iretE C (ce_sok aK aV B0) hH e d11_packet_6
abbrev b11_packets : ByteArray := prog_1_method_25_code
def y11_packets : MethodName := ⟨cn_11, "packets", "()I"⟩
theorem d11_packets_0 : decode b11_packets 0 = .ok (.aload_n 0, 1) := by decide +kernel
theorem d11_packets_1 : decode b11_packets 1 = .ok (.getfield 40, 3) := by decide +kernel
theorem d11_packets_4 : decode b11_packets 4 = .ok (.aload_n 0, 1) := by decide +kernel
theorem d11_packets_5 : decode b11_packets 5 = .ok (.getfield 10, 3) := by decide +kernel
theorem d11_packets_8 : decode b11_packets 8 = .ok (.invokevirtual 239, 3) := by decide +kernel
theorem d11_packets_11 : decode b11_packets 11 = .ok (.aload_n 0, 1) := by decide +kernel
theorem d11_packets_12 : decode b11_packets 12 = .ok (.getfield 10, 3) := by decide +kernel
theorem d11_packets_15 : decode b11_packets 15 = .ok (.getfield 88, 3) := by decide +kernel
theorem d11_packets_18 : decode b11_packets 18 = .ok (.iconst 0, 1) := by decide +kernel
theorem d11_packets_19 : decode b11_packets 19 = .ok (.putfield 92, 3) := by decide +kernel
theorem d11_packets_22 : decode b11_packets 22 = .ok (.aload_n 0, 1) := by decide +kernel
theorem d11_packets_23 : decode b11_packets 23 = .ok (.getfield 10, 3) := by decide +kernel
theorem d11_packets_26 : decode b11_packets 26 = .ok (.invokevirtual 106, 3) := by decide +kernel
theorem d11_packets_29 : decode b11_packets 29 = .ok (.ifCond .ne 6, 3) := by decide +kernel
theorem d11_packets_32 : decode b11_packets 32 = .ok (.bipush (-4), 2) := by decide +kernel
theorem d11_packets_34 : decode b11_packets 34 = .ok (.ireturn, 1) := by decide +kernel
theorem d11_packets_35 : decode b11_packets 35 = .ok (.aload_n 0, 1) := by decide +kernel
theorem d11_packets_36 : decode b11_packets 36 = .ok (.getfield 36, 3) := by decide +kernel
theorem d11_packets_39 : decode b11_packets 39 = .ok (.astore_n 1, 1) := by decide +kernel
theorem d11_packets_40 : decode b11_packets 40 = .ok (.aload_n 0, 1) := by decide +kernel
theorem d11_packets_41 : decode b11_packets 41 = .ok (.aload_n 0, 1) := by decide +kernel
theorem d11_packets_42 : decode b11_packets 42 = .ok (.getfield 40, 3) := by decide +kernel
theorem d11_packets_45 : decode b11_packets 45 = .ok (.putfield 36, 3) := by decide +kernel
theorem d11_packets_48 : decode b11_packets 48 = .ok (.aload_n 0, 1) := by decide +kernel
theorem d11_packets_49 : decode b11_packets 49 = .ok (.aload_n 1, 1) := by decide +kernel
theorem d11_packets_50 : decode b11_packets 50 = .ok (.putfield 40, 3) := by decide +kernel
theorem d11_packets_53 : decode b11_packets 53 = .ok (.aload_n 0, 1) := by decide +kernel
theorem d11_packets_54 : decode b11_packets 54 = .ok (.getfield 36, 3) := by decide +kernel
theorem d11_packets_57 : decode b11_packets 57 = .ok (.getfield 242, 3) := by decide +kernel
theorem d11_packets_60 : decode b11_packets 60 = .ok (.ireturn, 1) := by decide +kernel
theorem fl_11_40 : Cond.fieldLink cn_11 40 (ft_11 5).1 (ft_11 5).2.1 (ft_11 5).2.2.1 ∈ ce_cm := ce_cm_of (List.mem_of_getElem? (i := 442) (by decide +kernel)) (by decide +kernel)
theorem gf_11_40 (C : ce_Cx p s m args c meth cc nL ret cn_11 D ad cA B0 (ce_St aK aV B0)) (hH : ce_H D ad cA B0 X s h H locs) (hdg : decode cc pc = .ok (.getfield 40, 3)) (kk : W p l e0 R s m args below meth c H locs cells slots Q (F0 m (pc + 3) ls (.ref (ad (h 0 5).toNatClampNeg) :: rest))) : W p l e0 R s m args below meth c H locs cells slots Q (F0 m pc ls (.ref (ad 0) :: rest)) := by
  exact ce_get C hH (k := 0) (ci := 11) (j := 5) (N := 13) (sj := some none) (by decide) rfl rfl fw_11 (by decide) fl_11_40 rfl hdg kk
theorem pf_11_40 (C : ce_Cx p s m args c meth cc nL ret cn_11 D ad cA B0 (ce_St aK aV B0)) (hH : ce_H D ad cA B0 X s h H locs) {k : Nat} (hk : ce_isTold k) (hdg : decode cc pc = .ok (.putfield 40, 3)) (kk : ∀ (H1 : Heap) (locs1 : List Loc), ce_H D ad cA B0 X s (hp_up h 0 5 (nI k)) H1 locs1 → W p l e0 R s m args below meth c H1 locs1 cells slots Q (F0 m (pc + 3) ls rest)) : W p l e0 R s m args below meth c H locs cells slots Q (F0 m pc ls (.ref (ad k) :: .ref (ad 0) :: rest)) := by
  rcases hk with rfl | rfl
  · exact ce_put C hH (k := 0) (ci := 11) (j := 5) (N := 13) (fy := fy_11) (sj := some none) _ (by decide) rfl rfl fw_11 fo_11 fn_11 (by decide) fl_11_40 rfl rfl (by simp [ce_slot, upd, nI]) rfl rfl hdg kk
  · exact ce_put C hH (k := 0) (ci := 11) (j := 5) (N := 13) (fy := fy_11) (sj := some none) _ (by decide) rfl rfl fw_11 fo_11 fn_11 (by decide) fl_11_40 rfl rfl (by simp [ce_slot, upd, nI]) rfl rfl hdg kk
theorem fl_11_36 : Cond.fieldLink cn_11 36 (ft_11 4).1 (ft_11 4).2.1 (ft_11 4).2.2.1 ∈ ce_cm := ce_cm_of (List.mem_of_getElem? (i := 441) (by decide +kernel)) (by decide +kernel)
theorem gf_11_36 (C : ce_Cx p s m args c meth cc nL ret cn_11 D ad cA B0 (ce_St aK aV B0)) (hH : ce_H D ad cA B0 X s h H locs) (hdg : decode cc pc = .ok (.getfield 36, 3)) (kk : W p l e0 R s m args below meth c H locs cells slots Q (F0 m (pc + 3) ls (.ref (ad (h 0 4).toNatClampNeg) :: rest))) : W p l e0 R s m args below meth c H locs cells slots Q (F0 m pc ls (.ref (ad 0) :: rest)) := by
  exact ce_get C hH (k := 0) (ci := 11) (j := 4) (N := 13) (sj := some none) (by decide) rfl rfl fw_11 (by decide) fl_11_36 rfl hdg kk
theorem pf_11_36 (C : ce_Cx p s m args c meth cc nL ret cn_11 D ad cA B0 (ce_St aK aV B0)) (hH : ce_H D ad cA B0 X s h H locs) {k : Nat} (hk : ce_isTold k) (hdg : decode cc pc = .ok (.putfield 36, 3)) (kk : ∀ (H1 : Heap) (locs1 : List Loc), ce_H D ad cA B0 X s (hp_up h 0 4 (nI k)) H1 locs1 → W p l e0 R s m args below meth c H1 locs1 cells slots Q (F0 m (pc + 3) ls rest)) : W p l e0 R s m args below meth c H locs cells slots Q (F0 m pc ls (.ref (ad k) :: .ref (ad 0) :: rest)) := by
  rcases hk with rfl | rfl
  · exact ce_put C hH (k := 0) (ci := 11) (j := 4) (N := 13) (fy := fy_11) (sj := some none) _ (by decide) rfl rfl fw_11 fo_11 fn_11 (by decide) fl_11_36 rfl rfl (by simp [ce_slot, upd, nI]) rfl rfl hdg kk
  · exact ce_put C hH (k := 0) (ci := 11) (j := 4) (N := 13) (fy := fy_11) (sj := some none) _ (by decide) rfl rfl fw_11 fo_11 fn_11 (by decide) fl_11_36 rfl rfl (by simp [ce_slot, upd, nI]) rfl rfl hdg kk
theorem fl_11_242 : Cond.fieldLink cn_11 242 (ft_9 0).1 (ft_9 0).2.1 (ft_9 0).2.2.1 ∈ ce_cm := ce_cm_of (List.mem_of_getElem? (i := 271) (by decide +kernel)) (by decide +kernel)
theorem gf_11_242 (C : ce_Cx p s m args c meth cc nL ret cn_11 D ad cA B0 (ce_St aK aV B0)) (hH : ce_H D ad cA B0 X s h H locs) {k : Nat} (hk : ce_isTold k) (hdg : decode cc pc = .ok (.getfield 242, 3)) (kk : W p l e0 R s m args below meth c H locs cells slots Q (F0 m (pc + 3) ls (.int (h k 0) :: rest))) : W p l e0 R s m args below meth c H locs cells slots Q (F0 m pc ls (.ref (ad k) :: rest)) := by
  rcases hk with rfl | rfl
  · exact ce_get C hH (k := 21) (ci := 9) (j := 0) (N := 9) (sj := none) (by decide) rfl rfl fw_9 (by decide) fl_11_242 rfl hdg kk
  · exact ce_get C hH (k := 28) (ci := 9) (j := 0) (N := 9) (sj := none) (by decide) rfl rfl fw_9 (by decide) fl_11_242 rfl hdg kk
theorem pf_11_242 (C : ce_Cx p s m args c meth cc nL ret cn_11 D ad cA B0 (ce_St aK aV B0)) (hH : ce_H D ad cA B0 X s h H locs) {k : Nat} (hk : ce_isTold k) {x : Int32} (hdg : decode cc pc = .ok (.putfield 242, 3)) (kk : ∀ (H1 : Heap) (locs1 : List Loc), ce_H D ad cA B0 X s (hp_up h k 0 x) H1 locs1 → W p l e0 R s m args below meth c H1 locs1 cells slots Q (F0 m (pc + 3) ls rest)) : W p l e0 R s m args below meth c H locs cells slots Q (F0 m pc ls (.int x :: .ref (ad k) :: rest)) := by
  rcases hk with rfl | rfl
  · exact ce_put C hH (k := 21) (ci := 9) (j := 0) (N := 9) (fy := fy_9) (sj := none) x (by decide) rfl rfl fw_9 fo_9 fn_9 (by decide) fl_11_242 rfl rfl (v := .int x) (by simp [ce_slot, upd]) rfl rfl hdg kk
  · exact ce_put C hH (k := 28) (ci := 9) (j := 0) (N := 9) (fy := fy_9) (sj := none) x (by decide) rfl rfl fw_9 fo_9 fn_9 (by decide) fl_11_242 rfl rfl (v := .int x) (by simp [ce_slot, upd]) rfl rfl hdg kk
theorem mc9_read : Cond.code y9_read b9_read 3 none ∈ ce_cm := ce_cm_of (List.mem_of_getElem? (i := 951) (by decide +kernel)) (by decide +kernel)
theorem ml_11_239 : Cond.methodLink cn_11 239 y9_read ∈ ce_cm := ce_cm_of (List.mem_of_getElem? (i := 948) (by decide +kernel)) (by decide +kernel)
theorem mi9_read : Cond.instanceMethod y9_read ∈ ce_cm := ce_cm_of (List.mem_of_getElem? (i := 949) (by decide +kernel)) (by decide +kernel)
theorem ms9_read : Cond.selects cn_9 y9_read y9_read ∈ ce_cm := ce_cm_of (List.mem_of_getElem? (i := 950) (by decide +kernel)) (by decide +kernel)
def f11_packets (F : Nat)  (h : Hp) : Option (Int32 × Hp) :=
  ce_nm ((h 0 5).toNatClampNeg) (fun k_1 => if ce_isTold k_1 then
    Option.bind (f9_read F k_1 h) (fun o8 =>
      ce_nm (hp_up o8 2 1 (0 : Int32)) (fun h_19 =>
        Option.bind (f6_isFine F  h_19) (fun o26 =>
          if o26.1 = 0 then
            some ((-4 : Int32), o26.2)
          else
            ce_nm ((o26.2 0 4).toNatClampNeg) (fun k_36 => if ce_isTold k_36 then
              ce_nm ((o26.2 0 5).toNatClampNeg) (fun k_42 => if ce_isTold k_42 then
                ce_nm (hp_up o26.2 0 4 (nI k_42)) (fun h_45 =>
                  ce_nm (hp_up h_45 0 5 (nI k_36)) (fun h_50 =>
                    ce_nm ((h_50 0 4).toNatClampNeg) (fun k_54 => if ce_isTold k_54 then
                      some (h_50 k_54 0, h_50)
                    else none)))
              else none)
            else none))))
  else none)
set_option maxRecDepth 20000 in
theorem c11_packets (l : Launch) (D : va_G) (ad : Nat → Nat) (cA : Nat → ClassId) (aK aV : Nat → Nat) (B0 : Nat) (hA : ce_Ad ad B0) (F : Nat)   (h : Hp) (r : Int32 × Hp) (e : f11_packets F  h = some r) : ce_Ct l D ad cA B0 (ce_St aK aV B0) y11_packets b11_packets 2 (some .int) 5 111 0 0 [.ref (ad 0)] h (some (.int r.1)) r.2 := by
  refine ce_enter hA (by decide) rfl (Nat.le_of_ble_eq_true rfl) (fun p e0 s m below meth c ls C hH hl => ?_)
  have hl : lv_has ls 2 [(0, .ref (ad 0))] := hl
  have hx := C.1
  have hb := C.2.1
  have e : Option.bind _ some = some r := (congrArg (fun z => Option.bind z some) e).trans rfl
  unfold f11_packets at e
  refine lv_aload_n hx hb d11_packets_0 rfl (lv_at hl 0 rfl) ?_
  refine gf_11_40 C hH d11_packets_1 ?_
  obtain ⟨k_1, ek_1, e⟩ := ce_nmE e
  obtain ⟨hk_1, e⟩ := ce_gd e
  rw [← ek_1]
  refine lv_aload_n hx hb d11_packets_4 rfl (lv_at hl 0 rfl) ?_
  refine gf_11_10 C hH d11_packets_5 ?_
  obtain ⟨o8, eo8, e⟩ := ce_bd e
  refine ce_callV (As := [.ref (ad 1)]) (rest := []) C (ce_sok aK aV B0) hH (c9_read l D ad cA aK aV B0 C.2.2.2.2.2.2.1 F k_1 hk_1 h o8 eo8) (lk_Told hk_1).1 (lk_Told hk_1).2.choose_spec rfl rfl mc9_read ml_11_239 mi9_read ms9_read mI_9 (n := 1) (by decide) rfl ⟨Nat.le_of_ble_eq_true rfl, Nat.le_of_ble_eq_true rfl⟩ ⟨Nat.le_of_ble_eq_true rfl, Nat.le_of_ble_eq_true rfl⟩ hl.1 rfl (Nat.le_of_ble_eq_true rfl) d11_packets_8 (fun H locs hH => ?_)
  refine W.eq (g2 := F0 m 11 ls []) rfl ?_
  refine lv_aload_n hx hb d11_packets_11 rfl (lv_at hl 0 rfl) ?_
  refine gf_11_10 C hH d11_packets_12 ?_
  refine gf_11_88 C hH d11_packets_15 ?_
  refine lv_iconst (v := (0 : Int32)) hx hb d11_packets_18 (by decide) ?_
  refine pf_11_92 C hH d11_packets_19 (fun H locs hH => ?_)
  obtain ⟨h_19, eh_19, e⟩ := ce_nmE e
  rw [← eh_19] at hH
  refine lv_aload_n hx hb d11_packets_22 rfl (lv_at hl 0 rfl) ?_
  refine gf_11_10 C hH d11_packets_23 ?_
  obtain ⟨o26, eo26, e⟩ := ce_bd e
  refine ce_callV (As := []) (rest := []) C (ce_sok aK aV B0) hH (c6_isFine l D ad cA aK aV B0 C.2.2.2.2.2.2.1 F   h_19 o26 eo26) lo_1.1 lo_1.2.choose_spec rfl rfl mc6_isFine ml_11_106 mi6_isFine ms6_isFine mI_6 (n := 0) (by decide) rfl ⟨Nat.le_of_ble_eq_true rfl, Nat.le_of_ble_eq_true rfl⟩ ⟨Nat.le_of_ble_eq_true rfl, Nat.le_of_ble_eq_true rfl⟩ hl.1 rfl (Nat.le_of_ble_eq_true rfl) d11_packets_26 (fun H locs hH => ?_)
  refine W.eq (g2 := F0 m 29 ls [.int o26.1]) rfl ?_
  refine lv_if_ne (tgt := 35) hx hb d11_packets_29 (by decide) (fun hc29 => ?_) (fun hc29 => ?_)
  · have e := ce_if0 e hc29
    refine lv_aload_n hx hb d11_packets_35 rfl (lv_at hl 0 rfl) ?_
    refine gf_11_36 C hH d11_packets_36 ?_
    obtain ⟨k_36, ek_36, e⟩ := ce_nmE e
    obtain ⟨hk_36, e⟩ := ce_gd e
    rw [← ek_36]
    refine lv_astore_n (lv' := [(1, .ref (ad k_36)), (0, .ref (ad 0))]) hx hb d11_packets_39 rfl hl (by decide) rfl (fun ls hl => ?_)
    refine lv_aload_n hx hb d11_packets_40 rfl (lv_at hl 1 rfl) ?_
    refine lv_aload_n hx hb d11_packets_41 rfl (lv_at hl 1 rfl) ?_
    refine gf_11_40 C hH d11_packets_42 ?_
    obtain ⟨k_42, ek_42, e⟩ := ce_nmE e
    obtain ⟨hk_42, e⟩ := ce_gd e
    rw [← ek_42]
    refine pf_11_36 C hH hk_42 d11_packets_45 (fun H locs hH => ?_)
    obtain ⟨h_45, eh_45, e⟩ := ce_nmE e
    rw [← eh_45] at hH
    refine lv_aload_n hx hb d11_packets_48 rfl (lv_at hl 1 rfl) ?_
    refine lv_aload_n hx hb d11_packets_49 rfl (lv_at hl 0 rfl) ?_
    refine pf_11_40 C hH hk_36 d11_packets_50 (fun H locs hH => ?_)
    obtain ⟨h_50, eh_50, e⟩ := ce_nmE e
    rw [← eh_50] at hH
    refine lv_aload_n hx hb d11_packets_53 rfl (lv_at hl 1 rfl) ?_
    refine gf_11_36 C hH d11_packets_54 ?_
    obtain ⟨k_54, ek_54, e⟩ := ce_nmE e
    obtain ⟨hk_54, e⟩ := ce_gd e
    rw [← ek_54]
    refine gf_11_242 C hH hk_54 d11_packets_57 ?_
    exact ce_iretE C (ce_sok aK aV B0) hH e d11_packets_60
  · have e := ce_if1 e hc29
    refine lv_bipush (v := (-4 : Int32)) hx hb d11_packets_32 (by decide) ?_
    exact ce_iretE C (ce_sok aK aV B0) hH e d11_packets_34
abbrev b11_built : ByteArray := prog_1_method_26_code
def y11_built : MethodName := ⟨cn_11, "built", "(II)I"⟩
theorem d11_built_0 : decode b11_built 0 = .ok (.iload_n 1, 1) := by decide +kernel
theorem d11_built_1 : decode b11_built 1 = .ok (.ifCond .lt 14, 3) := by decide +kernel
theorem d11_built_4 : decode b11_built 4 = .ok (.iload_n 1, 1) := by decide +kernel
theorem d11_built_5 : decode b11_built 5 = .ok (.aload_n 0, 1) := by decide +kernel
theorem d11_built_6 : decode b11_built 6 = .ok (.getfield 36, 3) := by decide +kernel
theorem d11_built_9 : decode b11_built 9 = .ok (.getfield 242, 3) := by decide +kernel
theorem d11_built_12 : decode b11_built 12 = .ok (.if_icmp .lt 6, 3) := by decide +kernel
theorem d11_built_15 : decode b11_built 15 = .ok (.bipush (-2), 2) := by decide +kernel
theorem d11_built_17 : decode b11_built 17 = .ok (.ireturn, 1) := by decide +kernel
theorem d11_built_18 : decode b11_built 18 = .ok (.iload_n 2, 1) := by decide +kernel
theorem d11_built_19 : decode b11_built 19 = .ok (.tableswitch 82 0 4 #[33, 43, 53, 63, 73], 33) := by decide +kernel
theorem d11_built_52 : decode b11_built 52 = .ok (.aload_n 0, 1) := by decide +kernel
theorem d11_built_53 : decode b11_built 53 = .ok (.getfield 36, 3) := by decide +kernel
theorem d11_built_56 : decode b11_built 56 = .ok (.getfield 243, 3) := by decide +kernel
theorem d11_built_59 : decode b11_built 59 = .ok (.iload_n 1, 1) := by decide +kernel
theorem d11_built_60 : decode b11_built 60 = .ok (.iaload, 1) := by decide +kernel
theorem d11_built_61 : decode b11_built 61 = .ok (.ireturn, 1) := by decide +kernel
theorem d11_built_62 : decode b11_built 62 = .ok (.aload_n 0, 1) := by decide +kernel
theorem d11_built_63 : decode b11_built 63 = .ok (.getfield 36, 3) := by decide +kernel
theorem d11_built_66 : decode b11_built 66 = .ok (.getfield 245, 3) := by decide +kernel
theorem d11_built_69 : decode b11_built 69 = .ok (.iload_n 1, 1) := by decide +kernel
theorem d11_built_70 : decode b11_built 70 = .ok (.iaload, 1) := by decide +kernel
theorem d11_built_71 : decode b11_built 71 = .ok (.ireturn, 1) := by decide +kernel
theorem d11_built_72 : decode b11_built 72 = .ok (.aload_n 0, 1) := by decide +kernel
theorem d11_built_73 : decode b11_built 73 = .ok (.getfield 36, 3) := by decide +kernel
theorem d11_built_76 : decode b11_built 76 = .ok (.getfield 248, 3) := by decide +kernel
theorem d11_built_79 : decode b11_built 79 = .ok (.iload_n 1, 1) := by decide +kernel
theorem d11_built_80 : decode b11_built 80 = .ok (.iaload, 1) := by decide +kernel
theorem d11_built_81 : decode b11_built 81 = .ok (.ireturn, 1) := by decide +kernel
theorem d11_built_82 : decode b11_built 82 = .ok (.aload_n 0, 1) := by decide +kernel
theorem d11_built_83 : decode b11_built 83 = .ok (.getfield 36, 3) := by decide +kernel
theorem d11_built_86 : decode b11_built 86 = .ok (.iload_n 1, 1) := by decide +kernel
theorem d11_built_87 : decode b11_built 87 = .ok (.iconst 2, 1) := by decide +kernel
theorem d11_built_88 : decode b11_built 88 = .ok (.invokevirtual 251, 3) := by decide +kernel
theorem d11_built_91 : decode b11_built 91 = .ok (.ireturn, 1) := by decide +kernel
theorem d11_built_92 : decode b11_built 92 = .ok (.aload_n 0, 1) := by decide +kernel
theorem d11_built_93 : decode b11_built 93 = .ok (.getfield 36, 3) := by decide +kernel
theorem d11_built_96 : decode b11_built 96 = .ok (.iload_n 1, 1) := by decide +kernel
theorem d11_built_97 : decode b11_built 97 = .ok (.invokevirtual 254, 3) := by decide +kernel
theorem d11_built_100 : decode b11_built 100 = .ok (.ireturn, 1) := by decide +kernel
theorem d11_built_101 : decode b11_built 101 = .ok (.bipush (-2), 2) := by decide +kernel
theorem d11_built_103 : decode b11_built 103 = .ok (.ireturn, 1) := by decide +kernel
theorem mc9_cablesToRoot : Cond.code y9_cablesToRoot b9_cablesToRoot 4 (some .int) ∈ ce_cm := ce_cm_of (List.mem_of_getElem? (i := 995) (by decide +kernel)) (by decide +kernel)
theorem ml_11_254 : Cond.methodLink cn_11 254 y9_cablesToRoot ∈ ce_cm := ce_cm_of (List.mem_of_getElem? (i := 992) (by decide +kernel)) (by decide +kernel)
theorem mi9_cablesToRoot : Cond.instanceMethod y9_cablesToRoot ∈ ce_cm := ce_cm_of (List.mem_of_getElem? (i := 993) (by decide +kernel)) (by decide +kernel)
theorem ms9_cablesToRoot : Cond.selects cn_9 y9_cablesToRoot y9_cablesToRoot ∈ ce_cm := ce_cm_of (List.mem_of_getElem? (i := 994) (by decide +kernel)) (by decide +kernel)
theorem mc9_lettersOf : Cond.code y9_lettersOf b9_lettersOf 5 (some .int) ∈ ce_cm := ce_cm_of (List.mem_of_getElem? (i := 987) (by decide +kernel)) (by decide +kernel)
theorem ml_11_251 : Cond.methodLink cn_11 251 y9_lettersOf ∈ ce_cm := ce_cm_of (List.mem_of_getElem? (i := 984) (by decide +kernel)) (by decide +kernel)
theorem mi9_lettersOf : Cond.instanceMethod y9_lettersOf ∈ ce_cm := ce_cm_of (List.mem_of_getElem? (i := 985) (by decide +kernel)) (by decide +kernel)
theorem ms9_lettersOf : Cond.selects cn_9 y9_lettersOf y9_lettersOf ∈ ce_cm := ce_cm_of (List.mem_of_getElem? (i := 986) (by decide +kernel)) (by decide +kernel)
theorem fl_11_248 : Cond.fieldLink cn_11 248 (ft_9 3).1 (ft_9 3).2.1 (ft_9 3).2.2.1 ∈ ce_cm := ce_cm_of (List.mem_of_getElem? (i := 277) (by decide +kernel)) (by decide +kernel)
theorem gf_11_248 (C : ce_Cx p s m args c meth cc nL ret cn_11 D ad cA B0 (ce_St aK aV B0)) (hH : ce_H D ad cA B0 X s h H locs) {k : Nat} (hk : ce_isTold k) (hdg : decode cc pc = .ok (.getfield 248, 3)) (kk : W p l e0 R s m args below meth c H locs cells slots Q (F0 m (pc + 3) ls (.ref (ad (k + 3)) :: rest))) : W p l e0 R s m args below meth c H locs cells slots Q (F0 m pc ls (.ref (ad k) :: rest)) := by
  rcases hk with rfl | rfl
  · exact ce_get C hH (k := 21) (ci := 9) (j := 3) (N := 9) (sj := some (some 24)) (by decide) rfl rfl fw_9 (by decide) fl_11_248 rfl hdg kk
  · exact ce_get C hH (k := 28) (ci := 9) (j := 3) (N := 9) (sj := some (some 31)) (by decide) rfl rfl fw_9 (by decide) fl_11_248 rfl hdg kk
theorem fl_11_245 : Cond.fieldLink cn_11 245 (ft_9 2).1 (ft_9 2).2.1 (ft_9 2).2.2.1 ∈ ce_cm := ce_cm_of (List.mem_of_getElem? (i := 275) (by decide +kernel)) (by decide +kernel)
theorem gf_11_245 (C : ce_Cx p s m args c meth cc nL ret cn_11 D ad cA B0 (ce_St aK aV B0)) (hH : ce_H D ad cA B0 X s h H locs) {k : Nat} (hk : ce_isTold k) (hdg : decode cc pc = .ok (.getfield 245, 3)) (kk : W p l e0 R s m args below meth c H locs cells slots Q (F0 m (pc + 3) ls (.ref (ad (k + 2)) :: rest))) : W p l e0 R s m args below meth c H locs cells slots Q (F0 m pc ls (.ref (ad k) :: rest)) := by
  rcases hk with rfl | rfl
  · exact ce_get C hH (k := 21) (ci := 9) (j := 2) (N := 9) (sj := some (some 23)) (by decide) rfl rfl fw_9 (by decide) fl_11_245 rfl hdg kk
  · exact ce_get C hH (k := 28) (ci := 9) (j := 2) (N := 9) (sj := some (some 30)) (by decide) rfl rfl fw_9 (by decide) fl_11_245 rfl hdg kk
theorem fl_11_243 : Cond.fieldLink cn_11 243 (ft_9 1).1 (ft_9 1).2.1 (ft_9 1).2.2.1 ∈ ce_cm := ce_cm_of (List.mem_of_getElem? (i := 273) (by decide +kernel)) (by decide +kernel)
theorem gf_11_243 (C : ce_Cx p s m args c meth cc nL ret cn_11 D ad cA B0 (ce_St aK aV B0)) (hH : ce_H D ad cA B0 X s h H locs) {k : Nat} (hk : ce_isTold k) (hdg : decode cc pc = .ok (.getfield 243, 3)) (kk : W p l e0 R s m args below meth c H locs cells slots Q (F0 m (pc + 3) ls (.ref (ad (k + 1)) :: rest))) : W p l e0 R s m args below meth c H locs cells slots Q (F0 m pc ls (.ref (ad k) :: rest)) := by
  rcases hk with rfl | rfl
  · exact ce_get C hH (k := 21) (ci := 9) (j := 1) (N := 9) (sj := some (some 22)) (by decide) rfl rfl fw_9 (by decide) fl_11_243 rfl hdg kk
  · exact ce_get C hH (k := 28) (ci := 9) (j := 1) (N := 9) (sj := some (some 29)) (by decide) rfl rfl fw_9 (by decide) fl_11_243 rfl hdg kk
def f11_built (F : Nat) (x1 : Int32) (x2 : Int32) (h : Hp) : Option (Int32 × Hp) :=
  if x1 < 0 then
    some ((-2 : Int32), h)
  else
    ce_nm ((h 0 4).toNatClampNeg) (fun k_6 => if ce_isTold k_6 then
      if x1 < (h k_6 0) then
        if x2 = (0 : Int32) then
          ce_nm ((h 0 4).toNatClampNeg) (fun k_53 => if ce_isTold k_53 then
            if ce_in x1 12 = true then
              some (h (k_53 + 1) (x1).toNatClampNeg, h)
            else none
          else none)
        else
          if x2 = (1 : Int32) then
            ce_nm ((h 0 4).toNatClampNeg) (fun k_63 => if ce_isTold k_63 then
              if ce_in x1 12 = true then
                some (h (k_63 + 2) (x1).toNatClampNeg, h)
              else none
            else none)
          else
            if x2 = (2 : Int32) then
              ce_nm ((h 0 4).toNatClampNeg) (fun k_73 => if ce_isTold k_73 then
                if ce_in x1 12 = true then
                  some (h (k_73 + 3) (x1).toNatClampNeg, h)
                else none
              else none)
            else
              if x2 = (3 : Int32) then
                ce_nm ((h 0 4).toNatClampNeg) (fun k_83 => if ce_isTold k_83 then
                  Option.bind (f9_lettersOf F k_83 x1 (2 : Int32) h) (fun o88 =>
                    some (o88.1, o88.2))
                else none)
              else
                if x2 = (4 : Int32) then
                  ce_nm ((h 0 4).toNatClampNeg) (fun k_93 => if ce_isTold k_93 then
                    Option.bind (f9_cablesToRoot F k_93 x1 h) (fun o97 =>
                      some (o97.1, o97.2))
                  else none)
                else
                  some ((-2 : Int32), h)
      else
        some ((-2 : Int32), h)
    else none)
set_option maxRecDepth 20000 in
theorem c11_built (l : Launch) (D : va_G) (ad : Nat → Nat) (cA : Nat → ClassId) (aK aV : Nat → Nat) (B0 : Nat) (hA : ce_Ad ad B0) (F : Nat) (x1 : Int32) (x2 : Int32)  (h : Hp) (r : Int32 × Hp) (e : f11_built F x1 x2 h = some r) : ce_Ct l D ad cA B0 (ce_St aK aV B0) y11_built b11_built 3 (some .int) 2 46 0 0 [.ref (ad 0), .int x1, .int x2] h (some (.int r.1)) r.2 := by
  refine ce_enter hA (by decide) rfl (Nat.le_of_ble_eq_true rfl) (fun p e0 s m below meth c ls C hH hl => ?_)
  have hl : lv_has ls 3 [(0, .ref (ad 0)), (1, .int x1), (2, .int x2)] := hl
  have hx := C.1
  have hb := C.2.1
  have e : Option.bind _ some = some r := (congrArg (fun z => Option.bind z some) e).trans rfl
  unfold f11_built at e
  refine lv_iload_n hx hb d11_built_0 rfl (lv_at hl 1 rfl) ?_
  refine lv_if_lt (tgt := 15) hx hb d11_built_1 (by decide) (fun hc1 => ?_) (fun hc1 => ?_)
  · have e := ce_if1 e hc1
    refine lv_bipush (v := (-2 : Int32)) hx hb d11_built_15 (by decide) ?_
    exact ce_iretE C (ce_sok aK aV B0) hH e d11_built_17
  · have e := ce_if0 e hc1
    refine lv_iload_n hx hb d11_built_4 rfl (lv_at hl 1 rfl) ?_
    refine lv_aload_n hx hb d11_built_5 rfl (lv_at hl 0 rfl) ?_
    refine gf_11_36 C hH d11_built_6 ?_
    obtain ⟨k_6, ek_6, e⟩ := ce_nmE e
    obtain ⟨hk_6, e⟩ := ce_gd e
    rw [← ek_6]
    refine gf_11_242 C hH hk_6 d11_built_9 ?_
    refine lv_icmp_lt (tgt := 18) hx hb d11_built_12 (by decide) (fun hc12 => ?_) (fun hc12 => ?_)
    · have e := ce_if1 e hc12
      refine lv_iload_n hx hb d11_built_18 rfl (lv_at hl 2 rfl) ?_
      by_cases hc19_0 : x2 = (0 : Int32)
      · have e := ce_if1 e hc19_0
        refine lv_tableIn (off := 33) (tgt := 52) hx hb d11_built_19 (by rw [hc19_0]; decide) (by rw [hc19_0]; decide) (by rw [hc19_0]; rfl) (by decide) ?_
        refine lv_aload_n hx hb d11_built_52 rfl (lv_at hl 0 rfl) ?_
        refine gf_11_36 C hH d11_built_53 ?_
        obtain ⟨k_53, ek_53, e⟩ := ce_nmE e
        obtain ⟨hk_53, e⟩ := ce_gd e
        rw [← ek_53]
        refine gf_11_243 C hH hk_53 d11_built_56 ?_
        refine lv_iload_n hx hb d11_built_59 rfl (lv_at hl 1 rfl) ?_
        obtain ⟨hi60, e⟩ := ce_gd e
        refine ce_iald C hH (la_Told_1 hk_53).1 (la_Told_1 hk_53).2 (ce_in_vp hi60) d11_built_60 ?_
        exact ce_iretE C (ce_sok aK aV B0) hH e d11_built_61
      · have e := ce_if0 e hc19_0
        by_cases hc19_1 : x2 = (1 : Int32)
        · have e := ce_if1 e hc19_1
          refine lv_tableIn (off := 43) (tgt := 62) hx hb d11_built_19 (by rw [hc19_1]; decide) (by rw [hc19_1]; decide) (by rw [hc19_1]; rfl) (by decide) ?_
          refine lv_aload_n hx hb d11_built_62 rfl (lv_at hl 0 rfl) ?_
          refine gf_11_36 C hH d11_built_63 ?_
          obtain ⟨k_63, ek_63, e⟩ := ce_nmE e
          obtain ⟨hk_63, e⟩ := ce_gd e
          rw [← ek_63]
          refine gf_11_245 C hH hk_63 d11_built_66 ?_
          refine lv_iload_n hx hb d11_built_69 rfl (lv_at hl 1 rfl) ?_
          obtain ⟨hi70, e⟩ := ce_gd e
          refine ce_iald C hH (la_Told_2 hk_63).1 (la_Told_2 hk_63).2 (ce_in_vp hi70) d11_built_70 ?_
          exact ce_iretE C (ce_sok aK aV B0) hH e d11_built_71
        · have e := ce_if0 e hc19_1
          by_cases hc19_2 : x2 = (2 : Int32)
          · have e := ce_if1 e hc19_2
            refine lv_tableIn (off := 53) (tgt := 72) hx hb d11_built_19 (by rw [hc19_2]; decide) (by rw [hc19_2]; decide) (by rw [hc19_2]; rfl) (by decide) ?_
            refine lv_aload_n hx hb d11_built_72 rfl (lv_at hl 0 rfl) ?_
            refine gf_11_36 C hH d11_built_73 ?_
            obtain ⟨k_73, ek_73, e⟩ := ce_nmE e
            obtain ⟨hk_73, e⟩ := ce_gd e
            rw [← ek_73]
            refine gf_11_248 C hH hk_73 d11_built_76 ?_
            refine lv_iload_n hx hb d11_built_79 rfl (lv_at hl 1 rfl) ?_
            obtain ⟨hi80, e⟩ := ce_gd e
            refine ce_iald C hH (la_Told_3 hk_73).1 (la_Told_3 hk_73).2 (ce_in_vp hi80) d11_built_80 ?_
            exact ce_iretE C (ce_sok aK aV B0) hH e d11_built_81
          · have e := ce_if0 e hc19_2
            by_cases hc19_3 : x2 = (3 : Int32)
            · have e := ce_if1 e hc19_3
              refine lv_tableIn (off := 63) (tgt := 82) hx hb d11_built_19 (by rw [hc19_3]; decide) (by rw [hc19_3]; decide) (by rw [hc19_3]; rfl) (by decide) ?_
              refine lv_aload_n hx hb d11_built_82 rfl (lv_at hl 0 rfl) ?_
              refine gf_11_36 C hH d11_built_83 ?_
              obtain ⟨k_83, ek_83, e⟩ := ce_nmE e
              obtain ⟨hk_83, e⟩ := ce_gd e
              rw [← ek_83]
              refine lv_iload_n hx hb d11_built_86 rfl (lv_at hl 1 rfl) ?_
              refine lv_iconst (v := (2 : Int32)) hx hb d11_built_87 (by decide) ?_
              obtain ⟨o88, eo88, e⟩ := ce_bd e
              refine ce_callV (As := [.int x1, .int (2 : Int32)]) (rest := []) C (ce_sok aK aV B0) hH (c9_lettersOf l D ad cA aK aV B0 C.2.2.2.2.2.2.1 F k_83 x1 (2 : Int32) hk_83 h o88 eo88) (lk_Told hk_83).1 (lk_Told hk_83).2.choose_spec rfl rfl mc9_lettersOf ml_11_251 mi9_lettersOf ms9_lettersOf mI_9 (n := 2) (by decide) rfl ⟨Nat.le_of_ble_eq_true rfl, Nat.le_of_ble_eq_true rfl⟩ ⟨Nat.le_of_ble_eq_true rfl, Nat.le_of_ble_eq_true rfl⟩ hl.1 rfl (Nat.le_of_ble_eq_true rfl) d11_built_88 (fun H locs hH => ?_)
              refine W.eq (g2 := F0 m 91 ls [.int o88.1]) rfl ?_
              exact ce_iretE C (ce_sok aK aV B0) hH e d11_built_91
            · have e := ce_if0 e hc19_3
              by_cases hc19_4 : x2 = (4 : Int32)
              · have e := ce_if1 e hc19_4
                refine lv_tableIn (off := 73) (tgt := 92) hx hb d11_built_19 (by rw [hc19_4]; decide) (by rw [hc19_4]; decide) (by rw [hc19_4]; rfl) (by decide) ?_
                refine lv_aload_n hx hb d11_built_92 rfl (lv_at hl 0 rfl) ?_
                refine gf_11_36 C hH d11_built_93 ?_
                obtain ⟨k_93, ek_93, e⟩ := ce_nmE e
                obtain ⟨hk_93, e⟩ := ce_gd e
                rw [← ek_93]
                refine lv_iload_n hx hb d11_built_96 rfl (lv_at hl 1 rfl) ?_
                obtain ⟨o97, eo97, e⟩ := ce_bd e
                refine ce_callV (As := [.int x1]) (rest := []) C (ce_sok aK aV B0) hH (c9_cablesToRoot l D ad cA aK aV B0 C.2.2.2.2.2.2.1 F k_93 x1 hk_93 h o97 eo97) (lk_Told hk_93).1 (lk_Told hk_93).2.choose_spec rfl rfl mc9_cablesToRoot ml_11_254 mi9_cablesToRoot ms9_cablesToRoot mI_9 (n := 1) (by decide) rfl ⟨Nat.le_of_ble_eq_true rfl, Nat.le_of_ble_eq_true rfl⟩ ⟨Nat.le_of_ble_eq_true rfl, Nat.le_of_ble_eq_true rfl⟩ hl.1 rfl (Nat.le_of_ble_eq_true rfl) d11_built_97 (fun H locs hH => ?_)
                refine W.eq (g2 := F0 m 100 ls [.int o97.1]) rfl ?_
                exact ce_iretE C (ce_sok aK aV B0) hH e d11_built_100
              · have e := ce_if0 e hc19_4
                refine lv_tableOut (tgt := 101) hx hb d11_built_19 (ce_tblOut (n := 5) (fun i hi => ?_) (by decide)) (by decide) ?_
                · match i, hi with
                  | 0, _ => exact hc19_0
                  | 1, _ => exact hc19_1
                  | 2, _ => exact hc19_2
                  | 3, _ => exact hc19_3
                  | 4, _ => exact hc19_4
                  | i + 5, hi => exact absurd hi (by omega)
                · refine lv_bipush (v := (-2 : Int32)) hx hb d11_built_101 (by decide) ?_
                  exact ce_iretE C (ce_sok aK aV B0) hH e d11_built_103
    · have e := ce_if0 e hc12
      refine lv_bipush (v := (-2 : Int32)) hx hb d11_built_15 (by decide) ?_
      exact ce_iretE C (ce_sok aK aV B0) hH e d11_built_17
abbrev b11_unlike : ByteArray := prog_1_method_27_code
def y11_unlike : MethodName := ⟨cn_11, "unlike", "(I)I"⟩
theorem d11_unlike_0 : decode b11_unlike 0 = .ok (.aload_n 0, 1) := by decide +kernel
theorem d11_unlike_1 : decode b11_unlike 1 = .ok (.iload_n 1, 1) := by decide +kernel
theorem d11_unlike_2 : decode b11_unlike 2 = .ok (.invokevirtual 169, 3) := by decide +kernel
theorem d11_unlike_5 : decode b11_unlike 5 = .ok (.istore_n 2, 1) := by decide +kernel
theorem d11_unlike_6 : decode b11_unlike 6 = .ok (.iload_n 2, 1) := by decide +kernel
theorem d11_unlike_7 : decode b11_unlike 7 = .ok (.ifCond .eq 5, 3) := by decide +kernel
theorem d11_unlike_10 : decode b11_unlike 10 = .ok (.iload_n 2, 1) := by decide +kernel
theorem d11_unlike_11 : decode b11_unlike 11 = .ok (.ireturn, 1) := by decide +kernel
theorem d11_unlike_12 : decode b11_unlike 12 = .ok (.iconst 0, 1) := by decide +kernel
theorem d11_unlike_13 : decode b11_unlike 13 = .ok (.istore_n 3, 1) := by decide +kernel
theorem d11_unlike_14 : decode b11_unlike 14 = .ok (.aload_n 0, 1) := by decide +kernel
theorem d11_unlike_15 : decode b11_unlike 15 = .ok (.getfield 60, 3) := by decide +kernel
theorem d11_unlike_18 : decode b11_unlike 18 = .ok (.iload_n 1, 1) := by decide +kernel
theorem d11_unlike_19 : decode b11_unlike 19 = .ok (.invokevirtual 199, 3) := by decide +kernel
theorem d11_unlike_22 : decode b11_unlike 22 = .ok (.aload_n 0, 1) := by decide +kernel
theorem d11_unlike_23 : decode b11_unlike 23 = .ok (.getfield 36, 3) := by decide +kernel
theorem d11_unlike_26 : decode b11_unlike 26 = .ok (.getfield 242, 3) := by decide +kernel
theorem d11_unlike_29 : decode b11_unlike 29 = .ok (.invokestatic 257, 3) := by decide +kernel
theorem d11_unlike_32 : decode b11_unlike 32 = .ok (.istore 4, 2) := by decide +kernel
theorem d11_unlike_34 : decode b11_unlike 34 = .ok (.iconst 0, 1) := by decide +kernel
theorem d11_unlike_35 : decode b11_unlike 35 = .ok (.istore 5, 2) := by decide +kernel
theorem d11_unlike_37 : decode b11_unlike 37 = .ok (.iload 5, 2) := by decide +kernel
theorem d11_unlike_39 : decode b11_unlike 39 = .ok (.iload 4, 2) := by decide +kernel
theorem d11_unlike_41 : decode b11_unlike 41 = .ok (.if_icmp .ge 79, 3) := by decide +kernel
theorem d11_unlike_44 : decode b11_unlike 44 = .ok (.aload_n 0, 1) := by decide +kernel
theorem d11_unlike_45 : decode b11_unlike 45 = .ok (.getfield 77, 3) := by decide +kernel
theorem d11_unlike_48 : decode b11_unlike 48 = .ok (.aload_n 0, 1) := by decide +kernel
theorem d11_unlike_49 : decode b11_unlike 49 = .ok (.getfield 60, 3) := by decide +kernel
theorem d11_unlike_52 : decode b11_unlike 52 = .ok (.iload_n 1, 1) := by decide +kernel
theorem d11_unlike_53 : decode b11_unlike 53 = .ok (.iload 5, 2) := by decide +kernel
theorem d11_unlike_55 : decode b11_unlike 55 = .ok (.invokevirtual 195, 3) := by decide +kernel
theorem d11_unlike_58 : decode b11_unlike 58 = .ok (.istore 6, 2) := by decide +kernel
theorem d11_unlike_60 : decode b11_unlike 60 = .ok (.iconst 0, 1) := by decide +kernel
theorem d11_unlike_61 : decode b11_unlike 61 = .ok (.istore 7, 2) := by decide +kernel
theorem d11_unlike_63 : decode b11_unlike 63 = .ok (.iload 7, 2) := by decide +kernel
theorem d11_unlike_65 : decode b11_unlike 65 = .ok (.iconst 4, 1) := by decide +kernel
theorem d11_unlike_66 : decode b11_unlike 66 = .ok (.if_icmp .ge 48, 3) := by decide +kernel
theorem d11_unlike_69 : decode b11_unlike 69 = .ok (.iload 6, 2) := by decide +kernel
theorem d11_unlike_71 : decode b11_unlike 71 = .ok (.iconst (-1), 1) := by decide +kernel
theorem d11_unlike_72 : decode b11_unlike 72 = .ok (.if_icmp .ne 7, 3) := by decide +kernel
theorem d11_unlike_75 : decode b11_unlike 75 = .ok (.iconst (-1), 1) := by decide +kernel
theorem d11_unlike_76 : decode b11_unlike 76 = .ok (.goto 11, 3) := by decide +kernel
theorem d11_unlike_79 : decode b11_unlike 79 = .ok (.aload_n 0, 1) := by decide +kernel
theorem d11_unlike_80 : decode b11_unlike 80 = .ok (.iload 6, 2) := by decide +kernel
theorem d11_unlike_82 : decode b11_unlike 82 = .ok (.iload 7, 2) := by decide +kernel
theorem d11_unlike_84 : decode b11_unlike 84 = .ok (.invokevirtual 236, 3) := by decide +kernel
theorem d11_unlike_87 : decode b11_unlike 87 = .ok (.istore 8, 2) := by decide +kernel
theorem d11_unlike_89 : decode b11_unlike 89 = .ok (.iload 8, 2) := by decide +kernel
theorem d11_unlike_91 : decode b11_unlike 91 = .ok (.aload_n 0, 1) := by decide +kernel
theorem d11_unlike_92 : decode b11_unlike 92 = .ok (.getfield 36, 3) := by decide +kernel
theorem d11_unlike_95 : decode b11_unlike 95 = .ok (.iload 5, 2) := by decide +kernel
theorem d11_unlike_97 : decode b11_unlike 97 = .ok (.iload 7, 2) := by decide +kernel
theorem d11_unlike_99 : decode b11_unlike 99 = .ok (.invokevirtual 262, 3) := by decide +kernel
theorem d11_unlike_102 : decode b11_unlike 102 = .ok (.if_icmp .eq 6, 3) := by decide +kernel
theorem d11_unlike_105 : decode b11_unlike 105 = .ok (.iinc 3 1, 3) := by decide +kernel
theorem d11_unlike_108 : decode b11_unlike 108 = .ok (.iinc 7 1, 3) := by decide +kernel
theorem d11_unlike_111 : decode b11_unlike 111 = .ok (.goto (-48), 3) := by decide +kernel
theorem d11_unlike_114 : decode b11_unlike 114 = .ok (.iinc 5 1, 3) := by decide +kernel
theorem d11_unlike_117 : decode b11_unlike 117 = .ok (.goto (-80), 3) := by decide +kernel
theorem d11_unlike_120 : decode b11_unlike 120 = .ok (.iload_n 3, 1) := by decide +kernel
theorem d11_unlike_121 : decode b11_unlike 121 = .ok (.ireturn, 1) := by decide +kernel
theorem ml_11_262 : Cond.methodLink cn_11 262 y9_letterAt ∈ ce_cm := ce_cm_of (List.mem_of_getElem? (i := 1000) (by decide +kernel)) (by decide +kernel)
def f11_unlike_b63 (F : Nat) (x1 : Int32) (x4 : Int32) (x5 : Int32) (x6 : Int32) (x3 : Int32) (x7 : Int32) (h : Hp) : Option ((Int32 × Int32 × Hp) ⊕ (Int32 × Hp)) :=
  if (4 : Int32) ≤ x7 then
    some (.inr (x3, h))
  else
    if x6 = (-1 : Int32) then
      ce_nm ((h 0 4).toNatClampNeg) (fun k_92 => if ce_isTold k_92 then
        Option.bind (f9_letterAt F k_92 x5 x7 h) (fun o99 =>
          if (-1 : Int32) = o99.1 then
            some (.inl (x3, x7 + (1 : Int32), o99.2))
          else
            some (.inl (x3 + (1 : Int32), x7 + (1 : Int32), o99.2)))
      else none)
    else
      Option.bind (f11_letterOf F x6 x7 h) (fun o84 =>
        ce_nm ((o84.2 0 4).toNatClampNeg) (fun k_92 => if ce_isTold k_92 then
          Option.bind (f9_letterAt F k_92 x5 x7 o84.2) (fun o99 =>
            if o84.1 = o99.1 then
              some (.inl (x3, x7 + (1 : Int32), o99.2))
            else
              some (.inl (x3 + (1 : Int32), x7 + (1 : Int32), o99.2)))
        else none))
set_option maxRecDepth 20000 in
theorem l11_unlike_63 (C : ce_Cx p s m args c meth b11_unlike 9 (some .int) cn_11 D ad cA B0 (ce_St aK aV B0)) (F : Nat) (x1 : Int32) (x4 : Int32) (x5 : Int32) (x6 : Int32)  (r : Int32 × Hp) (g : (Int32 × Hp) → Option (Int32 × Hp)) (hx : ∀ (x3 : Int32) (h : Hp) (H : Heap) (locs : List Loc) (ls : Array Slot), ce_H D ad cA B0 [] s h H locs → lv_has ls 9 [(0, .ref (ad 0)), (1, .int x1), (3, .int x3), (4, .int x4), (5, .int x5)] → g (x3, h) = some r → W p l e0 { frames := 4, cells := 0, slots := 0, locals := 84 } s m args below meth c H locs 0 0 (MQ below (ce_Q D ad cA B0 (ce_St aK aV B0) (some (.int r.1)) r.2) args s 0 0 (fun q => B0 ≤ q)) (F0 m 114 ls [])) : ∀ (n : Nat) (x3 : Int32) (x7 : Int32) (h : Hp) (H : Heap) (locs : List Loc) (ls : Array Slot), ce_H D ad cA B0 [] s h H locs → lv_has ls 9 [(0, .ref (ad 0)), (1, .int x1), (3, .int x3), (4, .int x4), (5, .int x5), (6, .int x6), (7, .int x7)] → Option.bind (ce_it (fun (st : Int32 × Int32 × Hp) => f11_unlike_b63 F x1 x4 x5 x6 st.1 st.2.1 st.2.2) n (x3, x7, h)) g = some r → W p l e0 { frames := 4, cells := 0, slots := 0, locals := 84 } s m args below meth c H locs 0 0 (MQ below (ce_Q D ad cA B0 (ce_St aK aV B0) (some (.int r.1)) r.2) args s 0 0 (fun q => B0 ≤ q)) (F0 m 63 ls []) := by
  intro n
  induction n with
  | zero =>
    intro x3 x7 h H locs ls hH hl e
    exact absurd e (fun z => by cases z)
  | succ n ih =>
    intro x3 x7 h H locs ls hH hl e
    have hx9 := C.1
    have hb := C.2.1
    have e : Option.bind (f11_unlike_b63 F x1 x4 x5 x6 x3 x7 h) _ = some r := ce_it_bd e
    unfold f11_unlike_b63 at e
    refine lv_iload hx9 hb d11_unlike_63 (lv_at hl 6 rfl) ?_
    refine lv_iconst (v := (4 : Int32)) hx9 hb d11_unlike_65 (by decide) ?_
    refine lv_icmp_ge (tgt := 114) hx9 hb d11_unlike_66 (by decide) (fun hc66 => ?_) (fun hc66 => ?_)
    · have e := ce_if1 e hc66
      exact hx x3 h _ _ _ hH (lv_sub hl [0, 1, 2, 3, 4] rfl) e
    · have e := ce_if0 e hc66
      refine lv_iload hx9 hb d11_unlike_69 (lv_at hl 5 rfl) ?_
      refine lv_iconst (v := (-1 : Int32)) hx9 hb d11_unlike_71 (by decide) ?_
      refine lv_icmp_ne (tgt := 79) hx9 hb d11_unlike_72 (by decide) (fun hc72 => ?_) (fun hc72 => ?_)
      · have e := ce_if0 e hc72
        refine lv_aload_n hx9 hb d11_unlike_79 rfl (lv_at hl 0 rfl) ?_
        refine lv_iload hx9 hb d11_unlike_80 (lv_at hl 5 rfl) ?_
        refine lv_iload hx9 hb d11_unlike_82 (lv_at hl 6 rfl) ?_
        obtain ⟨o84, eo84, e⟩ := ce_bd e
        refine ce_callV (As := [.int x6, .int x7]) (rest := []) C (ce_sok aK aV B0) hH (c11_letterOf l D ad cA aK aV B0 C.2.2.2.2.2.2.1 F x6 x7  h o84 eo84) lo_0.1 lo_0.2.choose_spec rfl rfl mc11_letterOf ml_11_236 mi11_letterOf ms11_letterOf mI_11 (n := 2) (by decide) rfl ⟨Nat.le_of_ble_eq_true rfl, Nat.le_of_ble_eq_true rfl⟩ ⟨Nat.le_of_ble_eq_true rfl, Nat.le_of_ble_eq_true rfl⟩ hl.1 rfl (Nat.le_of_ble_eq_true rfl) d11_unlike_84 (fun H locs hH => ?_)
        refine W.eq (g2 := F0 m 87 ls [.int o84.1]) rfl ?_
        refine lv_istore (lv' := [(8, .int o84.1), (0, .ref (ad 0)), (1, .int x1), (3, .int x3), (4, .int x4), (5, .int x5), (6, .int x6), (7, .int x7)]) hx9 hb d11_unlike_87 hl (by decide) rfl (fun ls hl => ?_)
        refine lv_iload hx9 hb d11_unlike_89 (lv_at hl 0 rfl) ?_
        refine lv_aload_n hx9 hb d11_unlike_91 rfl (lv_at hl 1 rfl) ?_
        refine gf_11_36 C hH d11_unlike_92 ?_
        obtain ⟨k_92, ek_92, e⟩ := ce_nmE e
        obtain ⟨hk_92, e⟩ := ce_gd e
        rw [← ek_92]
        refine lv_iload hx9 hb d11_unlike_95 (lv_at hl 5 rfl) ?_
        refine lv_iload hx9 hb d11_unlike_97 (lv_at hl 7 rfl) ?_
        obtain ⟨o99, eo99, e⟩ := ce_bd e
        refine ce_callV (As := [.int x5, .int x7]) (rest := [.int o84.1]) C (ce_sok aK aV B0) hH (c9_letterAt l D ad cA aK aV B0 C.2.2.2.2.2.2.1 F k_92 x5 x7 hk_92 o84.2 o99 eo99) (lk_Told hk_92).1 (lk_Told hk_92).2.choose_spec rfl rfl mc9_letterAt ml_11_262 mi9_letterAt ms9_letterAt mI_9 (n := 2) (by decide) rfl ⟨Nat.le_of_ble_eq_true rfl, Nat.le_of_ble_eq_true rfl⟩ ⟨Nat.le_of_ble_eq_true rfl, Nat.le_of_ble_eq_true rfl⟩ hl.1 rfl (Nat.le_of_ble_eq_true rfl) d11_unlike_99 (fun H locs hH => ?_)
        refine W.eq (g2 := F0 m 102 ls [.int o99.1, .int o84.1]) rfl ?_
        refine lv_icmp_eq (tgt := 108) hx9 hb d11_unlike_102 (by decide) (fun hc102 => ?_) (fun hc102 => ?_)
        · have e := ce_if1 e hc102
          refine lv_iinc (v := x7 + (1 : Int32)) (lv' := [(7, .int (x7 + (1 : Int32))), (8, .int o84.1), (0, .ref (ad 0)), (1, .int x1), (3, .int x3), (4, .int x4), (5, .int x5), (6, .int x6)]) hx9 hb d11_unlike_108 hl (k := 7) rfl rfl (by decide) rfl (fun ls hl => ?_)
          refine lv_goto (tgt := 63) hx9 hb d11_unlike_111 (by decide) ?_
          exact ih x3 (x7 + (1 : Int32)) o99.2 _ _ _ hH (lv_sub hl [2, 3, 4, 5, 6, 7, 0] rfl) e
        · have e := ce_if0 e hc102
          refine lv_iinc (v := x3 + (1 : Int32)) (lv' := [(3, .int (x3 + (1 : Int32))), (8, .int o84.1), (0, .ref (ad 0)), (1, .int x1), (4, .int x4), (5, .int x5), (6, .int x6), (7, .int x7)]) hx9 hb d11_unlike_105 hl (k := 3) rfl rfl (by decide) rfl (fun ls hl => ?_)
          refine lv_iinc (v := x7 + (1 : Int32)) (lv' := [(7, .int (x7 + (1 : Int32))), (3, .int (x3 + (1 : Int32))), (8, .int o84.1), (0, .ref (ad 0)), (1, .int x1), (4, .int x4), (5, .int x5), (6, .int x6)]) hx9 hb d11_unlike_108 hl (k := 7) rfl rfl (by decide) rfl (fun ls hl => ?_)
          refine lv_goto (tgt := 63) hx9 hb d11_unlike_111 (by decide) ?_
          exact ih (x3 + (1 : Int32)) (x7 + (1 : Int32)) o99.2 _ _ _ hH (lv_sub hl [3, 4, 1, 5, 6, 7, 0] rfl) e
      · have e := ce_if1 e hc72
        refine lv_iconst (v := (-1 : Int32)) hx9 hb d11_unlike_75 (by decide) ?_
        refine lv_goto (tgt := 87) hx9 hb d11_unlike_76 (by decide) ?_
        refine lv_istore (lv' := [(8, .int (-1 : Int32)), (0, .ref (ad 0)), (1, .int x1), (3, .int x3), (4, .int x4), (5, .int x5), (6, .int x6), (7, .int x7)]) hx9 hb d11_unlike_87 hl (by decide) rfl (fun ls hl => ?_)
        refine lv_iload hx9 hb d11_unlike_89 (lv_at hl 0 rfl) ?_
        refine lv_aload_n hx9 hb d11_unlike_91 rfl (lv_at hl 1 rfl) ?_
        refine gf_11_36 C hH d11_unlike_92 ?_
        obtain ⟨k_92, ek_92, e⟩ := ce_nmE e
        obtain ⟨hk_92, e⟩ := ce_gd e
        rw [← ek_92]
        refine lv_iload hx9 hb d11_unlike_95 (lv_at hl 5 rfl) ?_
        refine lv_iload hx9 hb d11_unlike_97 (lv_at hl 7 rfl) ?_
        obtain ⟨o99, eo99, e⟩ := ce_bd e
        refine ce_callV (As := [.int x5, .int x7]) (rest := [.int (-1 : Int32)]) C (ce_sok aK aV B0) hH (c9_letterAt l D ad cA aK aV B0 C.2.2.2.2.2.2.1 F k_92 x5 x7 hk_92 h o99 eo99) (lk_Told hk_92).1 (lk_Told hk_92).2.choose_spec rfl rfl mc9_letterAt ml_11_262 mi9_letterAt ms9_letterAt mI_9 (n := 2) (by decide) rfl ⟨Nat.le_of_ble_eq_true rfl, Nat.le_of_ble_eq_true rfl⟩ ⟨Nat.le_of_ble_eq_true rfl, Nat.le_of_ble_eq_true rfl⟩ hl.1 rfl (Nat.le_of_ble_eq_true rfl) d11_unlike_99 (fun H locs hH => ?_)
        refine W.eq (g2 := F0 m 102 ls [.int o99.1, .int (-1 : Int32)]) rfl ?_
        refine lv_icmp_eq (tgt := 108) hx9 hb d11_unlike_102 (by decide) (fun hc102 => ?_) (fun hc102 => ?_)
        · have e := ce_if1 e hc102
          refine lv_iinc (v := x7 + (1 : Int32)) (lv' := [(7, .int (x7 + (1 : Int32))), (8, .int (-1 : Int32)), (0, .ref (ad 0)), (1, .int x1), (3, .int x3), (4, .int x4), (5, .int x5), (6, .int x6)]) hx9 hb d11_unlike_108 hl (k := 7) rfl rfl (by decide) rfl (fun ls hl => ?_)
          refine lv_goto (tgt := 63) hx9 hb d11_unlike_111 (by decide) ?_
          exact ih x3 (x7 + (1 : Int32)) o99.2 _ _ _ hH (lv_sub hl [2, 3, 4, 5, 6, 7, 0] rfl) e
        · have e := ce_if0 e hc102
          refine lv_iinc (v := x3 + (1 : Int32)) (lv' := [(3, .int (x3 + (1 : Int32))), (8, .int (-1 : Int32)), (0, .ref (ad 0)), (1, .int x1), (4, .int x4), (5, .int x5), (6, .int x6), (7, .int x7)]) hx9 hb d11_unlike_105 hl (k := 3) rfl rfl (by decide) rfl (fun ls hl => ?_)
          refine lv_iinc (v := x7 + (1 : Int32)) (lv' := [(7, .int (x7 + (1 : Int32))), (3, .int (x3 + (1 : Int32))), (8, .int (-1 : Int32)), (0, .ref (ad 0)), (1, .int x1), (4, .int x4), (5, .int x5), (6, .int x6)]) hx9 hb d11_unlike_108 hl (k := 7) rfl rfl (by decide) rfl (fun ls hl => ?_)
          refine lv_goto (tgt := 63) hx9 hb d11_unlike_111 (by decide) ?_
          exact ih (x3 + (1 : Int32)) (x7 + (1 : Int32)) o99.2 _ _ _ hH (lv_sub hl [3, 4, 1, 5, 6, 7, 0] rfl) e
def f11_unlike_b37 (F : Nat) (x1 : Int32) (x4 : Int32) (x3 : Int32) (x5 : Int32) (h : Hp) : Option ((Int32 × Int32 × Hp) ⊕ (Int32 × Hp)) :=
  if x4 ≤ x5 then
    some (.inr (x3, h))
  else
    Option.bind (f4_nodeWith F x1 x5 h) (fun o55 =>
      Option.bind (ce_it (fun (st : Int32 × Int32 × Hp) => f11_unlike_b63 F x1 x4 x5 o55.1 st.1 st.2.1 st.2.2) F (x3, (0 : Int32), o55.2)) (fun o63 =>
        some (.inl (o63.1, x5 + (1 : Int32), o63.2))))
set_option maxRecDepth 20000 in
theorem l11_unlike_37 (C : ce_Cx p s m args c meth b11_unlike 9 (some .int) cn_11 D ad cA B0 (ce_St aK aV B0)) (F : Nat) (x1 : Int32) (x4 : Int32)  (r : Int32 × Hp) (g : (Int32 × Hp) → Option (Int32 × Hp)) (hx : ∀ (x3 : Int32) (h : Hp) (H : Heap) (locs : List Loc) (ls : Array Slot), ce_H D ad cA B0 [] s h H locs → lv_has ls 9 [(3, .int x3)] → g (x3, h) = some r → W p l e0 { frames := 4, cells := 0, slots := 0, locals := 84 } s m args below meth c H locs 0 0 (MQ below (ce_Q D ad cA B0 (ce_St aK aV B0) (some (.int r.1)) r.2) args s 0 0 (fun q => B0 ≤ q)) (F0 m 120 ls [])) : ∀ (n : Nat) (x3 : Int32) (x5 : Int32) (h : Hp) (H : Heap) (locs : List Loc) (ls : Array Slot), ce_H D ad cA B0 [] s h H locs → lv_has ls 9 [(0, .ref (ad 0)), (1, .int x1), (3, .int x3), (4, .int x4), (5, .int x5)] → Option.bind (ce_it (fun (st : Int32 × Int32 × Hp) => f11_unlike_b37 F x1 x4 st.1 st.2.1 st.2.2) n (x3, x5, h)) g = some r → W p l e0 { frames := 4, cells := 0, slots := 0, locals := 84 } s m args below meth c H locs 0 0 (MQ below (ce_Q D ad cA B0 (ce_St aK aV B0) (some (.int r.1)) r.2) args s 0 0 (fun q => B0 ≤ q)) (F0 m 37 ls []) := by
  intro n
  induction n with
  | zero =>
    intro x3 x5 h H locs ls hH hl e
    exact absurd e (fun z => by cases z)
  | succ n ih =>
    intro x3 x5 h H locs ls hH hl e
    have hx9 := C.1
    have hb := C.2.1
    have e : Option.bind (f11_unlike_b37 F x1 x4 x3 x5 h) _ = some r := ce_it_bd e
    unfold f11_unlike_b37 at e
    refine lv_iload hx9 hb d11_unlike_37 (lv_at hl 4 rfl) ?_
    refine lv_iload hx9 hb d11_unlike_39 (lv_at hl 3 rfl) ?_
    refine lv_icmp_ge (tgt := 120) hx9 hb d11_unlike_41 (by decide) (fun hc41 => ?_) (fun hc41 => ?_)
    · have e := ce_if1 e hc41
      exact hx x3 h _ _ _ hH (lv_sub hl [2] rfl) e
    · have e := ce_if0 e hc41
      refine lv_aload_n hx9 hb d11_unlike_44 rfl (lv_at hl 0 rfl) ?_
      refine gf_11_77 C hH d11_unlike_45 ?_
      refine lv_aload_n hx9 hb d11_unlike_48 rfl (lv_at hl 0 rfl) ?_
      refine gf_11_60 C hH d11_unlike_49 ?_
      refine lv_iload_n hx9 hb d11_unlike_52 rfl (lv_at hl 1 rfl) ?_
      refine lv_iload hx9 hb d11_unlike_53 (lv_at hl 4 rfl) ?_
      obtain ⟨o55, eo55, e⟩ := ce_bd e
      refine ce_callV (As := [.ref (ad 44), .int x1, .int x5]) (rest := []) C (ce_sok aK aV B0) hH (c4_nodeWith l D ad cA aK aV B0 C.2.2.2.2.2.2.1 F x1 x5  h o55 eo55) lo_62.1 lo_62.2.choose_spec rfl rfl mc4_nodeWith ml_11_195 mi4_nodeWith ms4_nodeWith mI_4 (n := 3) (by decide) rfl ⟨Nat.le_of_ble_eq_true rfl, Nat.le_of_ble_eq_true rfl⟩ ⟨Nat.le_of_ble_eq_true rfl, Nat.le_of_ble_eq_true rfl⟩ hl.1 rfl (Nat.le_of_ble_eq_true rfl) d11_unlike_55 (fun H locs hH => ?_)
      refine W.eq (g2 := F0 m 58 ls [.int o55.1]) rfl ?_
      refine lv_istore (lv' := [(6, .int o55.1), (0, .ref (ad 0)), (1, .int x1), (3, .int x3), (4, .int x4), (5, .int x5)]) hx9 hb d11_unlike_58 hl (by decide) rfl (fun ls hl => ?_)
      refine lv_iconst (v := (0 : Int32)) hx9 hb d11_unlike_60 (by decide) ?_
      refine lv_istore (lv' := [(7, .int (0 : Int32)), (6, .int o55.1), (0, .ref (ad 0)), (1, .int x1), (3, .int x3), (4, .int x4), (5, .int x5)]) hx9 hb d11_unlike_61 hl (by decide) rfl (fun ls hl => ?_)
      refine l11_unlike_63 C F x1 x4 x5 o55.1  r _ (fun y63_3 h_63 H locs ls hH hl e => ?_) F x3 (0 : Int32) o55.2 _ _ _ hH (lv_sub hl [2, 3, 4, 5, 6, 1, 0] rfl) (ce_as e)
      try dsimp only at e
      refine lv_iinc (v := x5 + (1 : Int32)) (lv' := [(5, .int (x5 + (1 : Int32))), (0, .ref (ad 0)), (1, .int x1), (3, .int y63_3), (4, .int x4)]) hx9 hb d11_unlike_114 hl (k := 4) rfl rfl (by decide) rfl (fun ls hl => ?_)
      refine lv_goto (tgt := 37) hx9 hb d11_unlike_117 (by decide) ?_
      exact ih y63_3 (x5 + (1 : Int32)) h_63 _ _ _ hH (lv_sub hl [1, 2, 3, 4, 0] rfl) e
def f11_unlike (F : Nat) (x1 : Int32) (h : Hp) : Option (Int32 × Hp) :=
  Option.bind (f11_refusalOf F x1 h) (fun o2 =>
    if o2.1 = 0 then
      Option.bind (f2_nodesIn F x1 o2.2) (fun o19 =>
        ce_nm ((o19.2 0 4).toNatClampNeg) (fun k_23 => if ce_isTold k_23 then
          Option.bind (ce_it (fun (st : Int32 × Int32 × Hp) => f11_unlike_b37 F x1 (if o19.1 < (o19.2 k_23 0) then (o19.2 k_23 0) else o19.1) st.1 st.2.1 st.2.2) F ((0 : Int32), (0 : Int32), o19.2)) (fun o37 =>
            some (o37.1, o37.2))
        else none))
    else
      some (o2.1, o2.2))
set_option maxRecDepth 20000 in
theorem c11_unlike (l : Launch) (D : va_G) (ad : Nat → Nat) (cA : Nat → ClassId) (aK aV : Nat → Nat) (B0 : Nat) (hA : ce_Ad ad B0) (F : Nat) (x1 : Int32)  (h : Hp) (r : Int32 × Hp) (e : f11_unlike F x1 h = some r) : ce_Ct l D ad cA B0 (ce_St aK aV B0) y11_unlike b11_unlike 9 (some .int) 4 84 0 0 [.ref (ad 0), .int x1] h (some (.int r.1)) r.2 := by
  refine ce_enter hA (by decide) rfl (Nat.le_of_ble_eq_true rfl) (fun p e0 s m below meth c ls C hH hl => ?_)
  have hl : lv_has ls 9 [(0, .ref (ad 0)), (1, .int x1)] := hl
  have hx := C.1
  have hb := C.2.1
  have e : Option.bind _ some = some r := (congrArg (fun z => Option.bind z some) e).trans rfl
  unfold f11_unlike at e
  refine lv_aload_n hx hb d11_unlike_0 rfl (lv_at hl 0 rfl) ?_
  refine lv_iload_n hx hb d11_unlike_1 rfl (lv_at hl 1 rfl) ?_
  obtain ⟨o2, eo2, e⟩ := ce_bd e
  refine ce_callV (As := [.int x1]) (rest := []) C (ce_sok aK aV B0) hH (c11_refusalOf l D ad cA aK aV B0 C.2.2.2.2.2.2.1 F x1  h o2 eo2) lo_0.1 lo_0.2.choose_spec rfl rfl mc11_refusalOf ml_11_169 mi11_refusalOf ms11_refusalOf mI_11 (n := 1) (by decide) rfl ⟨Nat.le_of_ble_eq_true rfl, Nat.le_of_ble_eq_true rfl⟩ ⟨Nat.le_of_ble_eq_true rfl, Nat.le_of_ble_eq_true rfl⟩ hl.1 rfl (Nat.le_of_ble_eq_true rfl) d11_unlike_2 (fun H locs hH => ?_)
  refine W.eq (g2 := F0 m 5 ls [.int o2.1]) rfl ?_
  refine lv_istore_n (lv' := [(2, .int o2.1), (0, .ref (ad 0)), (1, .int x1)]) hx hb d11_unlike_5 rfl hl (by decide) rfl (fun ls hl => ?_)
  refine lv_iload_n hx hb d11_unlike_6 rfl (lv_at hl 0 rfl) ?_
  refine lv_if_eq (tgt := 12) hx hb d11_unlike_7 (by decide) (fun hc7 => ?_) (fun hc7 => ?_)
  · have e := ce_if1 e hc7
    refine lv_iconst (v := (0 : Int32)) hx hb d11_unlike_12 (by decide) ?_
    refine lv_istore_n (lv' := [(3, .int (0 : Int32)), (2, .int o2.1), (0, .ref (ad 0)), (1, .int x1)]) hx hb d11_unlike_13 rfl hl (by decide) rfl (fun ls hl => ?_)
    refine lv_aload_n hx hb d11_unlike_14 rfl (lv_at hl 2 rfl) ?_
    refine gf_11_60 C hH d11_unlike_15 ?_
    refine lv_iload_n hx hb d11_unlike_18 rfl (lv_at hl 3 rfl) ?_
    obtain ⟨o19, eo19, e⟩ := ce_bd e
    refine ce_callV (As := [.int x1]) (rest := []) C (ce_sok aK aV B0) hH (c2_nodesIn l D ad cA aK aV B0 C.2.2.2.2.2.2.1 F x1  o2.2 o19 eo19) lo_44.1 lo_44.2.choose_spec rfl rfl mc2_nodesIn ml_11_199 mi2_nodesIn ms2_nodesIn mI_2 (n := 1) (by decide) rfl ⟨Nat.le_of_ble_eq_true rfl, Nat.le_of_ble_eq_true rfl⟩ ⟨Nat.le_of_ble_eq_true rfl, Nat.le_of_ble_eq_true rfl⟩ hl.1 rfl (Nat.le_of_ble_eq_true rfl) d11_unlike_19 (fun H locs hH => ?_)
    refine W.eq (g2 := F0 m 22 ls [.int o19.1]) rfl ?_
    refine lv_aload_n hx hb d11_unlike_22 rfl (lv_at hl 2 rfl) ?_
    refine gf_11_36 C hH d11_unlike_23 ?_
    obtain ⟨k_23, ek_23, e⟩ := ce_nmE e
    obtain ⟨hk_23, e⟩ := ce_gd e
    rw [← ek_23]
    refine gf_11_242 C hH hk_23 d11_unlike_26 ?_
    refine va_mmax hx hb (C.2.2.1.trans hl.1.symm) C.2.2.2.1 (C.2.2.2.2.1 _ ml_11_257) (C.2.2.2.2.1 _ mt_Mmax) (C.2.2.2.2.1 _ mI_M) (C.2.2.2.2.1 _ mc_Mmax) (Nat.le_of_ble_eq_true rfl) (Nat.le_of_ble_eq_true rfl) (Nat.le_of_ble_eq_true rfl) (Nat.le_of_ble_eq_true rfl) d11_unlike_29 ?_
    refine lv_istore (lv' := [(4, .int (if o19.1 < (o19.2 k_23 0) then (o19.2 k_23 0) else o19.1)), (3, .int (0 : Int32)), (2, .int o2.1), (0, .ref (ad 0)), (1, .int x1)]) hx hb d11_unlike_32 hl (by decide) rfl (fun ls hl => ?_)
    refine lv_iconst (v := (0 : Int32)) hx hb d11_unlike_34 (by decide) ?_
    refine lv_istore (lv' := [(5, .int (0 : Int32)), (4, .int (if o19.1 < (o19.2 k_23 0) then (o19.2 k_23 0) else o19.1)), (3, .int (0 : Int32)), (2, .int o2.1), (0, .ref (ad 0)), (1, .int x1)]) hx hb d11_unlike_35 hl (by decide) rfl (fun ls hl => ?_)
    refine l11_unlike_37 C F x1 (if o19.1 < (o19.2 k_23 0) then (o19.2 k_23 0) else o19.1)  r _ (fun y37_3 h_37 H locs ls hH hl e => ?_) F (0 : Int32) (0 : Int32) o19.2 _ _ _ hH (lv_sub hl [4, 5, 2, 1, 0] rfl) (ce_as e)
    try dsimp only at e
    refine lv_iload_n hx hb d11_unlike_120 rfl (lv_at hl 0 rfl) ?_
    exact ce_iretE C (ce_sok aK aV B0) hH e d11_unlike_121
  · have e := ce_if0 e hc7
    refine lv_iload_n hx hb d11_unlike_10 rfl (lv_at hl 0 rfl) ?_
    exact ce_iretE C (ce_sok aK aV B0) hH e d11_unlike_11
abbrev b11_setRefusal : ByteArray := prog_1_method_44_code
def y11_setRefusal : MethodName := ⟨cn_11, "setRefusal", "(I)I"⟩
theorem d11_setRefusal_0 : decode b11_setRefusal 0 = .ok (.iload_n 1, 1) := by decide +kernel
theorem d11_setRefusal_1 : decode b11_setRefusal 1 = .ok (.ifCond .ne 5, 3) := by decide +kernel
theorem d11_setRefusal_4 : decode b11_setRefusal 4 = .ok (.iconst (-1), 1) := by decide +kernel
theorem d11_setRefusal_5 : decode b11_setRefusal 5 = .ok (.ireturn, 1) := by decide +kernel
theorem d11_setRefusal_6 : decode b11_setRefusal 6 = .ok (.iload_n 1, 1) := by decide +kernel
theorem d11_setRefusal_7 : decode b11_setRefusal 7 = .ok (.aload_n 0, 1) := by decide +kernel
theorem d11_setRefusal_8 : decode b11_setRefusal 8 = .ok (.getfield 26, 3) := by decide +kernel
theorem d11_setRefusal_11 : decode b11_setRefusal 11 = .ok (.getfield 125, 3) := by decide +kernel
theorem d11_setRefusal_14 : decode b11_setRefusal 14 = .ok (.iushr, 1) := by decide +kernel
theorem d11_setRefusal_15 : decode b11_setRefusal 15 = .ok (.ifCond .eq 6, 3) := by decide +kernel
theorem d11_setRefusal_18 : decode b11_setRefusal 18 = .ok (.bipush (-2), 2) := by decide +kernel
theorem d11_setRefusal_20 : decode b11_setRefusal 20 = .ok (.ireturn, 1) := by decide +kernel
theorem d11_setRefusal_21 : decode b11_setRefusal 21 = .ok (.iload_n 1, 1) := by decide +kernel
theorem d11_setRefusal_22 : decode b11_setRefusal 22 = .ok (.invokestatic 334, 3) := by decide +kernel
theorem d11_setRefusal_25 : decode b11_setRefusal 25 = .ok (.istore_n 2, 1) := by decide +kernel
theorem d11_setRefusal_26 : decode b11_setRefusal 26 = .ok (.iconst 0, 1) := by decide +kernel
theorem d11_setRefusal_27 : decode b11_setRefusal 27 = .ok (.istore_n 3, 1) := by decide +kernel
theorem d11_setRefusal_28 : decode b11_setRefusal 28 = .ok (.iload_n 3, 1) := by decide +kernel
theorem d11_setRefusal_29 : decode b11_setRefusal 29 = .ok (.aload_n 0, 1) := by decide +kernel
theorem d11_setRefusal_30 : decode b11_setRefusal 30 = .ok (.getfield 26, 3) := by decide +kernel
theorem d11_setRefusal_33 : decode b11_setRefusal 33 = .ok (.getfield 125, 3) := by decide +kernel
theorem d11_setRefusal_36 : decode b11_setRefusal 36 = .ok (.if_icmp .ge 32, 3) := by decide +kernel
theorem d11_setRefusal_39 : decode b11_setRefusal 39 = .ok (.iload_n 1, 1) := by decide +kernel
theorem d11_setRefusal_40 : decode b11_setRefusal 40 = .ok (.iload_n 3, 1) := by decide +kernel
theorem d11_setRefusal_41 : decode b11_setRefusal 41 = .ok (.invokestatic 337, 3) := by decide +kernel
theorem d11_setRefusal_44 : decode b11_setRefusal 44 = .ok (.ifCond .eq 18, 3) := by decide +kernel
theorem d11_setRefusal_47 : decode b11_setRefusal 47 = .ok (.aload_n 0, 1) := by decide +kernel
theorem d11_setRefusal_48 : decode b11_setRefusal 48 = .ok (.getfield 60, 3) := by decide +kernel
theorem d11_setRefusal_51 : decode b11_setRefusal 51 = .ok (.iload_n 2, 1) := by decide +kernel
theorem d11_setRefusal_52 : decode b11_setRefusal 52 = .ok (.iload_n 3, 1) := by decide +kernel
theorem d11_setRefusal_53 : decode b11_setRefusal 53 = .ok (.invokevirtual 229, 3) := by decide +kernel
theorem d11_setRefusal_56 : decode b11_setRefusal 56 = .ok (.ifCond .ne 6, 3) := by decide +kernel
theorem d11_setRefusal_59 : decode b11_setRefusal 59 = .ok (.bipush (-2), 2) := by decide +kernel
theorem d11_setRefusal_61 : decode b11_setRefusal 61 = .ok (.ireturn, 1) := by decide +kernel
theorem d11_setRefusal_62 : decode b11_setRefusal 62 = .ok (.iinc 3 1, 3) := by decide +kernel
theorem d11_setRefusal_65 : decode b11_setRefusal 65 = .ok (.goto (-37), 3) := by decide +kernel
theorem d11_setRefusal_68 : decode b11_setRefusal 68 = .ok (.aload_n 0, 1) := by decide +kernel
theorem d11_setRefusal_69 : decode b11_setRefusal 69 = .ok (.getfield 60, 3) := by decide +kernel
theorem d11_setRefusal_72 : decode b11_setRefusal 72 = .ok (.iload_n 2, 1) := by decide +kernel
theorem d11_setRefusal_73 : decode b11_setRefusal 73 = .ok (.invokevirtual 331, 3) := by decide +kernel
theorem d11_setRefusal_76 : decode b11_setRefusal 76 = .ok (.ifCond .eq 8, 3) := by decide +kernel
theorem d11_setRefusal_79 : decode b11_setRefusal 79 = .ok (.bipush (-3), 2) := by decide +kernel
theorem d11_setRefusal_81 : decode b11_setRefusal 81 = .ok (.goto 4, 3) := by decide +kernel
theorem d11_setRefusal_84 : decode b11_setRefusal 84 = .ok (.iconst 0, 1) := by decide +kernel
theorem d11_setRefusal_85 : decode b11_setRefusal 85 = .ok (.ireturn, 1) := by decide +kernel
theorem ml_11_334 : Cond.methodLink cn_11 334 y11_leastIn ∈ ce_cm := ce_cm_of (List.mem_of_getElem? (i := 1009) (by decide +kernel)) (by decide +kernel)
def f11_setRefusal_b28 (F : Nat) (x1 : Int32) (x2 : Int32) (x3 : Int32) (h : Hp) : Option ((Int32 × Hp) ⊕ ((Int32 × Hp) ⊕ (Hp))) :=
  ce_nm ((h 0 2).toNatClampNeg) (fun k_30 => if ce_isNet k_30 then
    if (h k_30 3) ≤ x3 then
      some (.inr (.inr h))
    else
      Option.bind (f11_holds F x1 x3 h) (fun o41 =>
        if o41.1 = 0 then
          some (.inl (x3 + (1 : Int32), o41.2))
        else
          Option.bind (f2_areOne F x2 x3 o41.2) (fun o53 =>
            if o53.1 = 0 then
              some (.inr (.inl ((-2 : Int32), o53.2)))
            else
              some (.inl (x3 + (1 : Int32), o53.2))))
  else none)
set_option maxRecDepth 20000 in
theorem l11_setRefusal_28 (C : ce_Cx p s m args c meth b11_setRefusal 4 (some .int) cn_11 D ad cA B0 (ce_St aK aV B0)) (F : Nat) (x1 : Int32) (x2 : Int32)  (r : Int32 × Hp) (g : ((Int32 × Hp) ⊕ (Hp)) → Option (Int32 × Hp)) (hx : ∀  (h : Hp) (H : Heap) (locs : List Loc) (ls : Array Slot), ce_H D ad cA B0 [] s h H locs → lv_has ls 4 [(0, .ref (ad 0)), (2, .int x2)] → g (.inr h) = some r → W p l e0 { frames := 3, cells := 0, slots := 0, locals := 63 } s m args below meth c H locs 0 0 (MQ below (ce_Q D ad cA B0 (ce_St aK aV B0) (some (.int r.1)) r.2) args s 0 0 (fun q => B0 ≤ q)) (F0 m 68 ls [])) (he : ∀ z, g (.inl z) = some z) : ∀ (n : Nat) (x3 : Int32) (h : Hp) (H : Heap) (locs : List Loc) (ls : Array Slot), ce_H D ad cA B0 [] s h H locs → lv_has ls 4 [(0, .ref (ad 0)), (1, .int x1), (2, .int x2), (3, .int x3)] → Option.bind (ce_it (fun (st : Int32 × Hp) => f11_setRefusal_b28 F x1 x2 st.1 st.2) n (x3, h)) g = some r → W p l e0 { frames := 3, cells := 0, slots := 0, locals := 63 } s m args below meth c H locs 0 0 (MQ below (ce_Q D ad cA B0 (ce_St aK aV B0) (some (.int r.1)) r.2) args s 0 0 (fun q => B0 ≤ q)) (F0 m 28 ls []) := by
  intro n
  induction n with
  | zero =>
    intro x3 h H locs ls hH hl e
    exact absurd e (fun z => by cases z)
  | succ n ih =>
    intro x3 h H locs ls hH hl e
    have hx9 := C.1
    have hb := C.2.1
    have e : Option.bind (f11_setRefusal_b28 F x1 x2 x3 h) _ = some r := ce_it_bd e
    unfold f11_setRefusal_b28 at e
    refine lv_iload_n hx9 hb d11_setRefusal_28 rfl (lv_at hl 3 rfl) ?_
    refine lv_aload_n hx9 hb d11_setRefusal_29 rfl (lv_at hl 0 rfl) ?_
    refine gf_11_26 C hH d11_setRefusal_30 ?_
    obtain ⟨k_30, ek_30, e⟩ := ce_nmE e
    obtain ⟨hk_30, e⟩ := ce_gd e
    rw [← ek_30]
    refine gf_11_125 C hH hk_30 d11_setRefusal_33 ?_
    refine lv_icmp_ge (tgt := 68) hx9 hb d11_setRefusal_36 (by decide) (fun hc36 => ?_) (fun hc36 => ?_)
    · have e := ce_if1 e hc36
      exact hx  h _ _ _ hH (lv_sub hl [0, 2] rfl) e
    · have e := ce_if0 e hc36
      refine lv_iload_n hx9 hb d11_setRefusal_39 rfl (lv_at hl 1 rfl) ?_
      refine lv_iload_n hx9 hb d11_setRefusal_40 rfl (lv_at hl 3 rfl) ?_
      obtain ⟨o41, eo41, e⟩ := ce_bd e
      refine ce_callS (As := [.int x1, .int x3]) (rest := []) C (ce_sok aK aV B0) hH (c11_holds l D ad cA aK aV B0 C.2.2.2.2.2.2.1 F x1 x3  h o41 eo41) mc11_holds ml_11_337 mt11_holds mI_11 (n := 2) (by decide) rfl ⟨Nat.le_of_ble_eq_true rfl, Nat.le_of_ble_eq_true rfl⟩ ⟨Nat.le_of_ble_eq_true rfl, Nat.le_of_ble_eq_true rfl⟩ hl.1 rfl (Nat.le_of_ble_eq_true rfl) d11_setRefusal_41 (fun H locs hH => ?_)
      refine W.eq (g2 := F0 m 44 ls [.int o41.1]) rfl ?_
      refine lv_if_eq (tgt := 62) hx9 hb d11_setRefusal_44 (by decide) (fun hc44 => ?_) (fun hc44 => ?_)
      · have e := ce_if1 e hc44
        refine lv_iinc (v := x3 + (1 : Int32)) (lv' := [(3, .int (x3 + (1 : Int32))), (0, .ref (ad 0)), (1, .int x1), (2, .int x2)]) hx9 hb d11_setRefusal_62 hl (k := 3) rfl rfl (by decide) rfl (fun ls hl => ?_)
        refine lv_goto (tgt := 28) hx9 hb d11_setRefusal_65 (by decide) ?_
        exact ih (x3 + (1 : Int32)) o41.2 _ _ _ hH (lv_sub hl [1, 2, 3, 0] rfl) e
      · have e := ce_if0 e hc44
        refine lv_aload_n hx9 hb d11_setRefusal_47 rfl (lv_at hl 0 rfl) ?_
        refine gf_11_60 C hH d11_setRefusal_48 ?_
        refine lv_iload_n hx9 hb d11_setRefusal_51 rfl (lv_at hl 2 rfl) ?_
        refine lv_iload_n hx9 hb d11_setRefusal_52 rfl (lv_at hl 3 rfl) ?_
        obtain ⟨o53, eo53, e⟩ := ce_bd e
        refine ce_callV (As := [.int x2, .int x3]) (rest := []) C (ce_sok aK aV B0) hH (c2_areOne l D ad cA aK aV B0 C.2.2.2.2.2.2.1 F x2 x3  o41.2 o53 eo53) lo_44.1 lo_44.2.choose_spec rfl rfl mc2_areOne ml_11_229 mi2_areOne ms2_areOne mI_2 (n := 2) (by decide) rfl ⟨Nat.le_of_ble_eq_true rfl, Nat.le_of_ble_eq_true rfl⟩ ⟨Nat.le_of_ble_eq_true rfl, Nat.le_of_ble_eq_true rfl⟩ hl.1 rfl (Nat.le_of_ble_eq_true rfl) d11_setRefusal_53 (fun H locs hH => ?_)
        refine W.eq (g2 := F0 m 56 ls [.int o53.1]) rfl ?_
        refine lv_if_ne (tgt := 62) hx9 hb d11_setRefusal_56 (by decide) (fun hc56 => ?_) (fun hc56 => ?_)
        · have e := ce_if0 e hc56
          refine lv_iinc (v := x3 + (1 : Int32)) (lv' := [(3, .int (x3 + (1 : Int32))), (0, .ref (ad 0)), (1, .int x1), (2, .int x2)]) hx9 hb d11_setRefusal_62 hl (k := 3) rfl rfl (by decide) rfl (fun ls hl => ?_)
          refine lv_goto (tgt := 28) hx9 hb d11_setRefusal_65 (by decide) ?_
          exact ih (x3 + (1 : Int32)) o53.2 _ _ _ hH (lv_sub hl [1, 2, 3, 0] rfl) e
        · have e := ce_if1 e hc56
          refine lv_bipush (v := (-2 : Int32)) hx9 hb d11_setRefusal_59 (by decide) ?_
          have e := (he _).symm.trans e
          exact ce_iretE C (ce_sok aK aV B0) hH e d11_setRefusal_61
def f11_setRefusal (F : Nat) (x1 : Int32) (h : Hp) : Option (Int32 × Hp) :=
  if x1 = 0 then
    some ((-1 : Int32), h)
  else
    ce_nm ((h 0 2).toNatClampNeg) (fun k_8 => if ce_isNet k_8 then
      if (ce_ushr x1 (h k_8 3)) = 0 then
        Option.bind (f11_leastIn F x1 h) (fun o22 =>
          Option.bind (ce_it (fun (st : Int32 × Hp) => f11_setRefusal_b28 F x1 o22.1 st.1 st.2) F ((0 : Int32), o22.2)) (fun o28w => match o28w with
            | .inl z => some z
            | .inr o28 =>
              Option.bind (f2_hasLoop F o22.1 o28) (fun o73 =>
                if o73.1 = 0 then
                  some ((0 : Int32), o73.2)
                else
                  some ((-3 : Int32), o73.2))))
      else
        some ((-2 : Int32), h)
    else none)
set_option maxRecDepth 20000 in
theorem c11_setRefusal (l : Launch) (D : va_G) (ad : Nat → Nat) (cA : Nat → ClassId) (aK aV : Nat → Nat) (B0 : Nat) (hA : ce_Ad ad B0) (F : Nat) (x1 : Int32)  (h : Hp) (r : Int32 × Hp) (e : f11_setRefusal F x1 h = some r) : ce_Ct l D ad cA B0 (ce_St aK aV B0) y11_setRefusal b11_setRefusal 4 (some .int) 3 63 0 0 [.ref (ad 0), .int x1] h (some (.int r.1)) r.2 := by
  refine ce_enter hA (by decide) rfl (Nat.le_of_ble_eq_true rfl) (fun p e0 s m below meth c ls C hH hl => ?_)
  have hl : lv_has ls 4 [(0, .ref (ad 0)), (1, .int x1)] := hl
  have hx := C.1
  have hb := C.2.1
  have e : Option.bind _ some = some r := (congrArg (fun z => Option.bind z some) e).trans rfl
  unfold f11_setRefusal at e
  refine lv_iload_n hx hb d11_setRefusal_0 rfl (lv_at hl 1 rfl) ?_
  refine lv_if_ne (tgt := 6) hx hb d11_setRefusal_1 (by decide) (fun hc1 => ?_) (fun hc1 => ?_)
  · have e := ce_if0 e hc1
    refine lv_iload_n hx hb d11_setRefusal_6 rfl (lv_at hl 1 rfl) ?_
    refine lv_aload_n hx hb d11_setRefusal_7 rfl (lv_at hl 0 rfl) ?_
    refine gf_11_26 C hH d11_setRefusal_8 ?_
    obtain ⟨k_8, ek_8, e⟩ := ce_nmE e
    obtain ⟨hk_8, e⟩ := ce_gd e
    rw [← ek_8]
    refine gf_11_125 C hH hk_8 d11_setRefusal_11 ?_
    refine lv_iushr (v := ce_ushr x1 (h k_8 3)) hx hb d11_setRefusal_14 rfl ?_
    refine lv_if_eq (tgt := 21) hx hb d11_setRefusal_15 (by decide) (fun hc15 => ?_) (fun hc15 => ?_)
    · have e := ce_if1 e hc15
      refine lv_iload_n hx hb d11_setRefusal_21 rfl (lv_at hl 1 rfl) ?_
      obtain ⟨o22, eo22, e⟩ := ce_bd e
      refine ce_callS (As := [.int x1]) (rest := []) C (ce_sok aK aV B0) hH (c11_leastIn l D ad cA aK aV B0 C.2.2.2.2.2.2.1 F x1  h o22 eo22) mc11_leastIn ml_11_334 mt11_leastIn mI_11 (n := 1) (by decide) rfl ⟨Nat.le_of_ble_eq_true rfl, Nat.le_of_ble_eq_true rfl⟩ ⟨Nat.le_of_ble_eq_true rfl, Nat.le_of_ble_eq_true rfl⟩ hl.1 rfl (Nat.le_of_ble_eq_true rfl) d11_setRefusal_22 (fun H locs hH => ?_)
      refine W.eq (g2 := F0 m 25 ls [.int o22.1]) rfl ?_
      refine lv_istore_n (lv' := [(2, .int o22.1), (0, .ref (ad 0)), (1, .int x1)]) hx hb d11_setRefusal_25 rfl hl (by decide) rfl (fun ls hl => ?_)
      refine lv_iconst (v := (0 : Int32)) hx hb d11_setRefusal_26 (by decide) ?_
      refine lv_istore_n (lv' := [(3, .int (0 : Int32)), (2, .int o22.1), (0, .ref (ad 0)), (1, .int x1)]) hx hb d11_setRefusal_27 rfl hl (by decide) rfl (fun ls hl => ?_)
      refine l11_setRefusal_28 C F x1 o22.1  r _ (fun  h_28 H locs ls hH hl e => ?_) (fun z => rfl) F (0 : Int32) o22.2 _ _ _ hH (lv_sub hl [2, 3, 1, 0] rfl) (ce_as e)
      try dsimp only at e
      refine lv_aload_n hx hb d11_setRefusal_68 rfl (lv_at hl 0 rfl) ?_
      refine gf_11_60 C hH d11_setRefusal_69 ?_
      refine lv_iload_n hx hb d11_setRefusal_72 rfl (lv_at hl 1 rfl) ?_
      obtain ⟨o73, eo73, e⟩ := ce_bd e
      refine ce_callV (As := [.int o22.1]) (rest := []) C (ce_sok aK aV B0) hH (c2_hasLoop l D ad cA aK aV B0 C.2.2.2.2.2.2.1 F o22.1  h_28 o73 eo73) lo_44.1 lo_44.2.choose_spec rfl rfl mc2_hasLoop ml_11_331 mi2_hasLoop ms2_hasLoop mI_2 (n := 1) (by decide) rfl ⟨Nat.le_of_ble_eq_true rfl, Nat.le_of_ble_eq_true rfl⟩ ⟨Nat.le_of_ble_eq_true rfl, Nat.le_of_ble_eq_true rfl⟩ hl.1 rfl (Nat.le_of_ble_eq_true rfl) d11_setRefusal_73 (fun H locs hH => ?_)
      refine W.eq (g2 := F0 m 76 ls [.int o73.1]) rfl ?_
      refine lv_if_eq (tgt := 84) hx hb d11_setRefusal_76 (by decide) (fun hc76 => ?_) (fun hc76 => ?_)
      · have e := ce_if1 e hc76
        refine lv_iconst (v := (0 : Int32)) hx hb d11_setRefusal_84 (by decide) ?_
        exact ce_iretE C (ce_sok aK aV B0) hH e d11_setRefusal_85
      · have e := ce_if0 e hc76
        refine lv_bipush (v := (-3 : Int32)) hx hb d11_setRefusal_79 (by decide) ?_
        refine lv_goto (tgt := 85) hx hb d11_setRefusal_81 (by decide) ?_
        exact ce_iretE C (ce_sok aK aV B0) hH e d11_setRefusal_85
    · have e := ce_if0 e hc15
      refine lv_bipush (v := (-2 : Int32)) hx hb d11_setRefusal_18 (by decide) ?_
      exact ce_iretE C (ce_sok aK aV B0) hH e d11_setRefusal_20
  · have e := ce_if1 e hc1
    refine lv_iconst (v := (-1 : Int32)) hx hb d11_setRefusal_4 (by decide) ?_
    exact ce_iretE C (ce_sok aK aV B0) hH e d11_setRefusal_5
abbrev b11_wins : ByteArray := prog_1_method_28_code
def y11_wins : MethodName := ⟨cn_11, "wins", "(I)I"⟩
theorem d11_wins_0 : decode b11_wins 0 = .ok (.aload_n 0, 1) := by decide +kernel
theorem d11_wins_1 : decode b11_wins 1 = .ok (.iload_n 1, 1) := by decide +kernel
theorem d11_wins_2 : decode b11_wins 2 = .ok (.invokevirtual 265, 3) := by decide +kernel
theorem d11_wins_5 : decode b11_wins 5 = .ok (.istore_n 2, 1) := by decide +kernel
theorem d11_wins_6 : decode b11_wins 6 = .ok (.iload_n 2, 1) := by decide +kernel
theorem d11_wins_7 : decode b11_wins 7 = .ok (.ifCond .eq 5, 3) := by decide +kernel
theorem d11_wins_10 : decode b11_wins 10 = .ok (.iload_n 2, 1) := by decide +kernel
theorem d11_wins_11 : decode b11_wins 11 = .ok (.ireturn, 1) := by decide +kernel
theorem d11_wins_12 : decode b11_wins 12 = .ok (.aload_n 0, 1) := by decide +kernel
theorem d11_wins_13 : decode b11_wins 13 = .ok (.getfield 84, 3) := by decide +kernel
theorem d11_wins_16 : decode b11_wins 16 = .ok (.aload_n 0, 1) := by decide +kernel
theorem d11_wins_17 : decode b11_wins 17 = .ok (.getfield 26, 3) := by decide +kernel
theorem d11_wins_20 : decode b11_wins 20 = .ok (.aload_n 0, 1) := by decide +kernel
theorem d11_wins_21 : decode b11_wins 21 = .ok (.getfield 67, 3) := by decide +kernel
theorem d11_wins_24 : decode b11_wins 24 = .ok (.aload_n 0, 1) := by decide +kernel
theorem d11_wins_25 : decode b11_wins 25 = .ok (.getfield 77, 3) := by decide +kernel
theorem d11_wins_28 : decode b11_wins 28 = .ok (.aload_n 0, 1) := by decide +kernel
theorem d11_wins_29 : decode b11_wins 29 = .ok (.getfield 60, 3) := by decide +kernel
theorem d11_wins_32 : decode b11_wins 32 = .ok (.iload_n 1, 1) := by decide +kernel
theorem d11_wins_33 : decode b11_wins 33 = .ok (.invokevirtual 268, 3) := by decide +kernel
theorem d11_wins_36 : decode b11_wins 36 = .ok (.aload_n 0, 1) := by decide +kernel
theorem d11_wins_37 : decode b11_wins 37 = .ok (.getfield 84, 3) := by decide +kernel
theorem d11_wins_40 : decode b11_wins 40 = .ok (.getfield 272, 3) := by decide +kernel
theorem d11_wins_43 : decode b11_wins 43 = .ok (.ireturn, 1) := by decide +kernel
theorem fl_11_84 : Cond.fieldLink cn_11 84 (ft_11 12).1 (ft_11 12).2.1 (ft_11 12).2.2.1 ∈ ce_cm := ce_cm_of (List.mem_of_getElem? (i := 449) (by decide +kernel)) (by decide +kernel)
theorem gf_11_84 (C : ce_Cx p s m args c meth cc nL ret cn_11 D ad cA B0 (ce_St aK aV B0)) (hH : ce_H D ad cA B0 X s h H locs) (hdg : decode cc pc = .ok (.getfield 84, 3)) (kk : W p l e0 R s m args below meth c H locs cells slots Q (F0 m (pc + 3) ls (.ref (ad 65) :: rest))) : W p l e0 R s m args below meth c H locs cells slots Q (F0 m pc ls (.ref (ad 0) :: rest)) := by
  exact ce_get C hH (k := 0) (ci := 11) (j := 12) (N := 13) (sj := some (some 65)) (by decide) rfl rfl fw_11 (by decide) fl_11_84 rfl hdg kk
theorem fl_11_272 : Cond.fieldLink cn_11 272 (ft_1 0).1 (ft_1 0).2.1 (ft_1 0).2.2.1 ∈ ce_cm := ce_cm_of (List.mem_of_getElem? (i := 423) (by decide +kernel)) (by decide +kernel)
theorem gf_11_272 (C : ce_Cx p s m args c meth cc nL ret cn_11 D ad cA B0 (ce_St aK aV B0)) (hH : ce_H D ad cA B0 X s h H locs) (hdg : decode cc pc = .ok (.getfield 272, 3)) (kk : W p l e0 R s m args below meth c H locs cells slots Q (F0 m (pc + 3) ls (.int (h 65 0) :: rest))) : W p l e0 R s m args below meth c H locs cells slots Q (F0 m pc ls (.ref (ad 65) :: rest)) := by
  exact ce_get C hH (k := 65) (ci := 1) (j := 0) (N := 4) (sj := none) (by decide) rfl rfl fw_1 (by decide) fl_11_272 rfl hdg kk
theorem pf_11_272 (C : ce_Cx p s m args c meth cc nL ret cn_11 D ad cA B0 (ce_St aK aV B0)) (hH : ce_H D ad cA B0 X s h H locs) {x : Int32} (hdg : decode cc pc = .ok (.putfield 272, 3)) (kk : ∀ (H1 : Heap) (locs1 : List Loc), ce_H D ad cA B0 X s (hp_up h 65 0 x) H1 locs1 → W p l e0 R s m args below meth c H1 locs1 cells slots Q (F0 m (pc + 3) ls rest)) : W p l e0 R s m args below meth c H locs cells slots Q (F0 m pc ls (.int x :: .ref (ad 65) :: rest)) := by
  exact ce_put C hH (k := 65) (ci := 1) (j := 0) (N := 4) (fy := fy_1) (sj := none) x (by decide) rfl rfl fw_1 fo_1 fn_1 (by decide) fl_11_272 rfl rfl (v := .int x) (by simp [ce_slot, upd]) rfl rfl hdg kk
theorem mc1_ask : Cond.code y1_ask b1_ask 10 none ∈ ce_cm := ce_cm_of (List.mem_of_getElem? (i := 1018) (by decide +kernel)) (by decide +kernel)
theorem ml_11_268 : Cond.methodLink cn_11 268 y1_ask ∈ ce_cm := ce_cm_of (List.mem_of_getElem? (i := 1015) (by decide +kernel)) (by decide +kernel)
theorem mi1_ask : Cond.instanceMethod y1_ask ∈ ce_cm := ce_cm_of (List.mem_of_getElem? (i := 1016) (by decide +kernel)) (by decide +kernel)
theorem ms1_ask : Cond.selects cn_1 y1_ask y1_ask ∈ ce_cm := ce_cm_of (List.mem_of_getElem? (i := 1017) (by decide +kernel)) (by decide +kernel)
theorem mc11_setRefusal : Cond.code y11_setRefusal b11_setRefusal 4 (some .int) ∈ ce_cm := ce_cm_of (List.mem_of_getElem? (i := 1008) (by decide +kernel)) (by decide +kernel)
theorem ml_11_265 : Cond.methodLink cn_11 265 y11_setRefusal ∈ ce_cm := ce_cm_of (List.mem_of_getElem? (i := 1005) (by decide +kernel)) (by decide +kernel)
theorem mi11_setRefusal : Cond.instanceMethod y11_setRefusal ∈ ce_cm := ce_cm_of (List.mem_of_getElem? (i := 1007) (by decide +kernel)) (by decide +kernel)
theorem ms11_setRefusal : Cond.selects cn_11 y11_setRefusal y11_setRefusal ∈ ce_cm := ce_cm_of (List.mem_of_getElem? (i := 27) (by decide +kernel)) (by decide +kernel)
def f11_wins (F : Nat) (x1 : Int32) (h : Hp) : Option (Int32 × Hp) :=
  Option.bind (f11_setRefusal F x1 h) (fun o2 =>
    if o2.1 = 0 then
      ce_nm ((o2.2 0 2).toNatClampNeg) (fun k_17 => if ce_isNet k_17 then
        Option.bind (f1_ask F k_17 48 x1 o2.2) (fun o33 =>
          some (o33 65 0, o33))
      else none)
    else
      some (o2.1, o2.2))
set_option maxRecDepth 20000 in
theorem c11_wins (l : Launch) (D : va_G) (ad : Nat → Nat) (cA : Nat → ClassId) (aK aV : Nat → Nat) (B0 : Nat) (hA : ce_Ad ad B0) (F : Nat) (x1 : Int32)  (h : Hp) (r : Int32 × Hp) (e : f11_wins F x1 h = some r) : ce_Ct l D ad cA B0 (ce_St aK aV B0) y11_wins b11_wins 3 (some .int) 4 101 0 0 [.ref (ad 0), .int x1] h (some (.int r.1)) r.2 := by
  refine ce_enter hA (by decide) rfl (Nat.le_of_ble_eq_true rfl) (fun p e0 s m below meth c ls C hH hl => ?_)
  have hl : lv_has ls 3 [(0, .ref (ad 0)), (1, .int x1)] := hl
  have hx := C.1
  have hb := C.2.1
  have e : Option.bind _ some = some r := (congrArg (fun z => Option.bind z some) e).trans rfl
  unfold f11_wins at e
  refine lv_aload_n hx hb d11_wins_0 rfl (lv_at hl 0 rfl) ?_
  refine lv_iload_n hx hb d11_wins_1 rfl (lv_at hl 1 rfl) ?_
  obtain ⟨o2, eo2, e⟩ := ce_bd e
  refine ce_callV (As := [.int x1]) (rest := []) C (ce_sok aK aV B0) hH (c11_setRefusal l D ad cA aK aV B0 C.2.2.2.2.2.2.1 F x1  h o2 eo2) lo_0.1 lo_0.2.choose_spec rfl rfl mc11_setRefusal ml_11_265 mi11_setRefusal ms11_setRefusal mI_11 (n := 1) (by decide) rfl ⟨Nat.le_of_ble_eq_true rfl, Nat.le_of_ble_eq_true rfl⟩ ⟨Nat.le_of_ble_eq_true rfl, Nat.le_of_ble_eq_true rfl⟩ hl.1 rfl (Nat.le_of_ble_eq_true rfl) d11_wins_2 (fun H locs hH => ?_)
  refine W.eq (g2 := F0 m 5 ls [.int o2.1]) rfl ?_
  refine lv_istore_n (lv' := [(2, .int o2.1), (0, .ref (ad 0)), (1, .int x1)]) hx hb d11_wins_5 rfl hl (by decide) rfl (fun ls hl => ?_)
  refine lv_iload_n hx hb d11_wins_6 rfl (lv_at hl 0 rfl) ?_
  refine lv_if_eq (tgt := 12) hx hb d11_wins_7 (by decide) (fun hc7 => ?_) (fun hc7 => ?_)
  · have e := ce_if1 e hc7
    refine lv_aload_n hx hb d11_wins_12 rfl (lv_at hl 1 rfl) ?_
    refine gf_11_84 C hH d11_wins_13 ?_
    refine lv_aload_n hx hb d11_wins_16 rfl (lv_at hl 1 rfl) ?_
    refine gf_11_26 C hH d11_wins_17 ?_
    obtain ⟨k_17, ek_17, e⟩ := ce_nmE e
    obtain ⟨hk_17, e⟩ := ce_gd e
    rw [← ek_17]
    refine lv_aload_n hx hb d11_wins_20 rfl (lv_at hl 1 rfl) ?_
    refine gf_11_67 C hH d11_wins_21 ?_
    refine lv_aload_n hx hb d11_wins_24 rfl (lv_at hl 1 rfl) ?_
    refine gf_11_77 C hH d11_wins_25 ?_
    refine lv_aload_n hx hb d11_wins_28 rfl (lv_at hl 1 rfl) ?_
    refine gf_11_60 C hH d11_wins_29 ?_
    refine lv_iload_n hx hb d11_wins_32 rfl (lv_at hl 2 rfl) ?_
    obtain ⟨o33, eo33, e⟩ := ce_bd e
    refine ce_callV (As := [.ref (ad k_17), .ref (ad 48), .ref (ad 62), .ref (ad 44), .int x1]) (rest := []) C (ce_sok aK aV B0) hH (c1_ask l D ad cA aK aV B0 C.2.2.2.2.2.2.1 F k_17 48 x1 hk_17 (Or.inl rfl) o2.2 o33 eo33) lo_65.1 lo_65.2.choose_spec rfl rfl mc1_ask ml_11_268 mi1_ask ms1_ask mI_1 (n := 5) (by decide) rfl ⟨Nat.le_of_ble_eq_true rfl, Nat.le_of_ble_eq_true rfl⟩ ⟨Nat.le_of_ble_eq_true rfl, Nat.le_of_ble_eq_true rfl⟩ hl.1 rfl (Nat.le_of_ble_eq_true rfl) d11_wins_33 (fun H locs hH => ?_)
    refine W.eq (g2 := F0 m 36 ls []) rfl ?_
    refine lv_aload_n hx hb d11_wins_36 rfl (lv_at hl 1 rfl) ?_
    refine gf_11_84 C hH d11_wins_37 ?_
    refine gf_11_272 C hH d11_wins_40 ?_
    exact ce_iretE C (ce_sok aK aV B0) hH e d11_wins_43
  · have e := ce_if0 e hc7
    refine lv_iload_n hx hb d11_wins_10 rfl (lv_at hl 0 rfl) ?_
    exact ce_iretE C (ce_sok aK aV B0) hH e d11_wins_11
abbrev b11_grant : ByteArray := prog_1_method_29_code
def y11_grant : MethodName := ⟨cn_11, "grant", "(I)I"⟩
theorem d11_grant_0 : decode b11_grant 0 = .ok (.aload_n 0, 1) := by decide +kernel
theorem d11_grant_1 : decode b11_grant 1 = .ok (.iload_n 1, 1) := by decide +kernel
theorem d11_grant_2 : decode b11_grant 2 = .ok (.invokevirtual 265, 3) := by decide +kernel
theorem d11_grant_5 : decode b11_grant 5 = .ok (.istore_n 2, 1) := by decide +kernel
theorem d11_grant_6 : decode b11_grant 6 = .ok (.iload_n 2, 1) := by decide +kernel
theorem d11_grant_7 : decode b11_grant 7 = .ok (.ifCond .eq 5, 3) := by decide +kernel
theorem d11_grant_10 : decode b11_grant 10 = .ok (.iload_n 2, 1) := by decide +kernel
theorem d11_grant_11 : decode b11_grant 11 = .ok (.ireturn, 1) := by decide +kernel
theorem d11_grant_12 : decode b11_grant 12 = .ok (.aload_n 0, 1) := by decide +kernel
theorem d11_grant_13 : decode b11_grant 13 = .ok (.getfield 84, 3) := by decide +kernel
theorem d11_grant_16 : decode b11_grant 16 = .ok (.aload_n 0, 1) := by decide +kernel
theorem d11_grant_17 : decode b11_grant 17 = .ok (.getfield 26, 3) := by decide +kernel
theorem d11_grant_20 : decode b11_grant 20 = .ok (.aload_n 0, 1) := by decide +kernel
theorem d11_grant_21 : decode b11_grant 21 = .ok (.getfield 67, 3) := by decide +kernel
theorem d11_grant_24 : decode b11_grant 24 = .ok (.aload_n 0, 1) := by decide +kernel
theorem d11_grant_25 : decode b11_grant 25 = .ok (.getfield 77, 3) := by decide +kernel
theorem d11_grant_28 : decode b11_grant 28 = .ok (.aload_n 0, 1) := by decide +kernel
theorem d11_grant_29 : decode b11_grant 29 = .ok (.getfield 60, 3) := by decide +kernel
theorem d11_grant_32 : decode b11_grant 32 = .ok (.iload_n 1, 1) := by decide +kernel
theorem d11_grant_33 : decode b11_grant 33 = .ok (.invokevirtual 268, 3) := by decide +kernel
theorem d11_grant_36 : decode b11_grant 36 = .ok (.aload_n 0, 1) := by decide +kernel
theorem d11_grant_37 : decode b11_grant 37 = .ok (.getfield 84, 3) := by decide +kernel
theorem d11_grant_40 : decode b11_grant 40 = .ok (.getfield 275, 3) := by decide +kernel
theorem d11_grant_43 : decode b11_grant 43 = .ok (.ireturn, 1) := by decide +kernel
theorem fl_11_275 : Cond.fieldLink cn_11 275 (ft_1 1).1 (ft_1 1).2.1 (ft_1 1).2.2.1 ∈ ce_cm := ce_cm_of (List.mem_of_getElem? (i := 425) (by decide +kernel)) (by decide +kernel)
theorem gf_11_275 (C : ce_Cx p s m args c meth cc nL ret cn_11 D ad cA B0 (ce_St aK aV B0)) (hH : ce_H D ad cA B0 X s h H locs) (hdg : decode cc pc = .ok (.getfield 275, 3)) (kk : W p l e0 R s m args below meth c H locs cells slots Q (F0 m (pc + 3) ls (.int (h 65 1) :: rest))) : W p l e0 R s m args below meth c H locs cells slots Q (F0 m pc ls (.ref (ad 65) :: rest)) := by
  exact ce_get C hH (k := 65) (ci := 1) (j := 1) (N := 4) (sj := none) (by decide) rfl rfl fw_1 (by decide) fl_11_275 rfl hdg kk
theorem pf_11_275 (C : ce_Cx p s m args c meth cc nL ret cn_11 D ad cA B0 (ce_St aK aV B0)) (hH : ce_H D ad cA B0 X s h H locs) {x : Int32} (hdg : decode cc pc = .ok (.putfield 275, 3)) (kk : ∀ (H1 : Heap) (locs1 : List Loc), ce_H D ad cA B0 X s (hp_up h 65 1 x) H1 locs1 → W p l e0 R s m args below meth c H1 locs1 cells slots Q (F0 m (pc + 3) ls rest)) : W p l e0 R s m args below meth c H locs cells slots Q (F0 m pc ls (.int x :: .ref (ad 65) :: rest)) := by
  exact ce_put C hH (k := 65) (ci := 1) (j := 1) (N := 4) (fy := fy_1) (sj := none) x (by decide) rfl rfl fw_1 fo_1 fn_1 (by decide) fl_11_275 rfl rfl (v := .int x) (by simp [ce_slot, upd]) rfl rfl hdg kk
def f11_grant (F : Nat) (x1 : Int32) (h : Hp) : Option (Int32 × Hp) :=
  Option.bind (f11_setRefusal F x1 h) (fun o2 =>
    if o2.1 = 0 then
      ce_nm ((o2.2 0 2).toNatClampNeg) (fun k_17 => if ce_isNet k_17 then
        Option.bind (f1_ask F k_17 48 x1 o2.2) (fun o33 =>
          some (o33 65 1, o33))
      else none)
    else
      some (o2.1, o2.2))
set_option maxRecDepth 20000 in
theorem c11_grant (l : Launch) (D : va_G) (ad : Nat → Nat) (cA : Nat → ClassId) (aK aV : Nat → Nat) (B0 : Nat) (hA : ce_Ad ad B0) (F : Nat) (x1 : Int32)  (h : Hp) (r : Int32 × Hp) (e : f11_grant F x1 h = some r) : ce_Ct l D ad cA B0 (ce_St aK aV B0) y11_grant b11_grant 3 (some .int) 4 101 0 0 [.ref (ad 0), .int x1] h (some (.int r.1)) r.2 := by
  refine ce_enter hA (by decide) rfl (Nat.le_of_ble_eq_true rfl) (fun p e0 s m below meth c ls C hH hl => ?_)
  have hl : lv_has ls 3 [(0, .ref (ad 0)), (1, .int x1)] := hl
  have hx := C.1
  have hb := C.2.1
  have e : Option.bind _ some = some r := (congrArg (fun z => Option.bind z some) e).trans rfl
  unfold f11_grant at e
  refine lv_aload_n hx hb d11_grant_0 rfl (lv_at hl 0 rfl) ?_
  refine lv_iload_n hx hb d11_grant_1 rfl (lv_at hl 1 rfl) ?_
  obtain ⟨o2, eo2, e⟩ := ce_bd e
  refine ce_callV (As := [.int x1]) (rest := []) C (ce_sok aK aV B0) hH (c11_setRefusal l D ad cA aK aV B0 C.2.2.2.2.2.2.1 F x1  h o2 eo2) lo_0.1 lo_0.2.choose_spec rfl rfl mc11_setRefusal ml_11_265 mi11_setRefusal ms11_setRefusal mI_11 (n := 1) (by decide) rfl ⟨Nat.le_of_ble_eq_true rfl, Nat.le_of_ble_eq_true rfl⟩ ⟨Nat.le_of_ble_eq_true rfl, Nat.le_of_ble_eq_true rfl⟩ hl.1 rfl (Nat.le_of_ble_eq_true rfl) d11_grant_2 (fun H locs hH => ?_)
  refine W.eq (g2 := F0 m 5 ls [.int o2.1]) rfl ?_
  refine lv_istore_n (lv' := [(2, .int o2.1), (0, .ref (ad 0)), (1, .int x1)]) hx hb d11_grant_5 rfl hl (by decide) rfl (fun ls hl => ?_)
  refine lv_iload_n hx hb d11_grant_6 rfl (lv_at hl 0 rfl) ?_
  refine lv_if_eq (tgt := 12) hx hb d11_grant_7 (by decide) (fun hc7 => ?_) (fun hc7 => ?_)
  · have e := ce_if1 e hc7
    refine lv_aload_n hx hb d11_grant_12 rfl (lv_at hl 1 rfl) ?_
    refine gf_11_84 C hH d11_grant_13 ?_
    refine lv_aload_n hx hb d11_grant_16 rfl (lv_at hl 1 rfl) ?_
    refine gf_11_26 C hH d11_grant_17 ?_
    obtain ⟨k_17, ek_17, e⟩ := ce_nmE e
    obtain ⟨hk_17, e⟩ := ce_gd e
    rw [← ek_17]
    refine lv_aload_n hx hb d11_grant_20 rfl (lv_at hl 1 rfl) ?_
    refine gf_11_67 C hH d11_grant_21 ?_
    refine lv_aload_n hx hb d11_grant_24 rfl (lv_at hl 1 rfl) ?_
    refine gf_11_77 C hH d11_grant_25 ?_
    refine lv_aload_n hx hb d11_grant_28 rfl (lv_at hl 1 rfl) ?_
    refine gf_11_60 C hH d11_grant_29 ?_
    refine lv_iload_n hx hb d11_grant_32 rfl (lv_at hl 2 rfl) ?_
    obtain ⟨o33, eo33, e⟩ := ce_bd e
    refine ce_callV (As := [.ref (ad k_17), .ref (ad 48), .ref (ad 62), .ref (ad 44), .int x1]) (rest := []) C (ce_sok aK aV B0) hH (c1_ask l D ad cA aK aV B0 C.2.2.2.2.2.2.1 F k_17 48 x1 hk_17 (Or.inl rfl) o2.2 o33 eo33) lo_65.1 lo_65.2.choose_spec rfl rfl mc1_ask ml_11_268 mi1_ask ms1_ask mI_1 (n := 5) (by decide) rfl ⟨Nat.le_of_ble_eq_true rfl, Nat.le_of_ble_eq_true rfl⟩ ⟨Nat.le_of_ble_eq_true rfl, Nat.le_of_ble_eq_true rfl⟩ hl.1 rfl (Nat.le_of_ble_eq_true rfl) d11_grant_33 (fun H locs hH => ?_)
    refine W.eq (g2 := F0 m 36 ls []) rfl ?_
    refine lv_aload_n hx hb d11_grant_36 rfl (lv_at hl 1 rfl) ?_
    refine gf_11_84 C hH d11_grant_37 ?_
    refine gf_11_275 C hH d11_grant_40 ?_
    exact ce_iretE C (ce_sok aK aV B0) hH e d11_grant_43
  · have e := ce_if0 e hc7
    refine lv_iload_n hx hb d11_grant_10 rfl (lv_at hl 0 rfl) ?_
    exact ce_iretE C (ce_sok aK aV B0) hH e d11_grant_11
abbrev b11_turn : ByteArray := prog_1_method_30_code
def y11_turn : MethodName := ⟨cn_11, "turn", "(II)I"⟩
theorem d11_turn_0 : decode b11_turn 0 = .ok (.iload_n 2, 1) := by decide +kernel
theorem d11_turn_1 : decode b11_turn 1 = .ok (.ifCond .ge 6, 3) := by decide +kernel
theorem d11_turn_4 : decode b11_turn 4 = .ok (.bipush (-2), 2) := by decide +kernel
theorem d11_turn_6 : decode b11_turn 6 = .ok (.ireturn, 1) := by decide +kernel
theorem d11_turn_7 : decode b11_turn 7 = .ok (.aload_n 0, 1) := by decide +kernel
theorem d11_turn_8 : decode b11_turn 8 = .ok (.iload_n 1, 1) := by decide +kernel
theorem d11_turn_9 : decode b11_turn 9 = .ok (.invokevirtual 265, 3) := by decide +kernel
theorem d11_turn_12 : decode b11_turn 12 = .ok (.istore_n 3, 1) := by decide +kernel
theorem d11_turn_13 : decode b11_turn 13 = .ok (.iload_n 3, 1) := by decide +kernel
theorem d11_turn_14 : decode b11_turn 14 = .ok (.ifCond .eq 5, 3) := by decide +kernel
theorem d11_turn_17 : decode b11_turn 17 = .ok (.iload_n 3, 1) := by decide +kernel
theorem d11_turn_18 : decode b11_turn 18 = .ok (.ireturn, 1) := by decide +kernel
theorem d11_turn_19 : decode b11_turn 19 = .ok (.iload_n 1, 1) := by decide +kernel
theorem d11_turn_20 : decode b11_turn 20 = .ok (.istore 4, 2) := by decide +kernel
theorem d11_turn_22 : decode b11_turn 22 = .ok (.iconst 0, 1) := by decide +kernel
theorem d11_turn_23 : decode b11_turn 23 = .ok (.istore 5, 2) := by decide +kernel
theorem d11_turn_25 : decode b11_turn 25 = .ok (.iload 5, 2) := by decide +kernel
theorem d11_turn_27 : decode b11_turn 27 = .ok (.bipush 10, 2) := by decide +kernel
theorem d11_turn_29 : decode b11_turn 29 = .ok (.if_icmp .ge 67, 3) := by decide +kernel
theorem d11_turn_32 : decode b11_turn 32 = .ok (.iload 4, 2) := by decide +kernel
theorem d11_turn_34 : decode b11_turn 34 = .ok (.ifCond .eq 62, 3) := by decide +kernel
theorem d11_turn_37 : decode b11_turn 37 = .ok (.aload_n 0, 1) := by decide +kernel
theorem d11_turn_38 : decode b11_turn 38 = .ok (.getfield 84, 3) := by decide +kernel
theorem d11_turn_41 : decode b11_turn 41 = .ok (.aload_n 0, 1) := by decide +kernel
theorem d11_turn_42 : decode b11_turn 42 = .ok (.getfield 26, 3) := by decide +kernel
theorem d11_turn_45 : decode b11_turn 45 = .ok (.aload_n 0, 1) := by decide +kernel
theorem d11_turn_46 : decode b11_turn 46 = .ok (.getfield 67, 3) := by decide +kernel
theorem d11_turn_49 : decode b11_turn 49 = .ok (.aload_n 0, 1) := by decide +kernel
theorem d11_turn_50 : decode b11_turn 50 = .ok (.getfield 77, 3) := by decide +kernel
theorem d11_turn_53 : decode b11_turn 53 = .ok (.aload_n 0, 1) := by decide +kernel
theorem d11_turn_54 : decode b11_turn 54 = .ok (.getfield 60, 3) := by decide +kernel
theorem d11_turn_57 : decode b11_turn 57 = .ok (.iload 4, 2) := by decide +kernel
theorem d11_turn_59 : decode b11_turn 59 = .ok (.invokevirtual 268, 3) := by decide +kernel
theorem d11_turn_62 : decode b11_turn 62 = .ok (.iload 5, 2) := by decide +kernel
theorem d11_turn_64 : decode b11_turn 64 = .ok (.iload_n 2, 1) := by decide +kernel
theorem d11_turn_65 : decode b11_turn 65 = .ok (.if_icmp .ne 11, 3) := by decide +kernel
theorem d11_turn_68 : decode b11_turn 68 = .ok (.aload_n 0, 1) := by decide +kernel
theorem d11_turn_69 : decode b11_turn 69 = .ok (.getfield 84, 3) := by decide +kernel
theorem d11_turn_72 : decode b11_turn 72 = .ok (.getfield 272, 3) := by decide +kernel
theorem d11_turn_75 : decode b11_turn 75 = .ok (.ireturn, 1) := by decide +kernel
theorem d11_turn_76 : decode b11_turn 76 = .ok (.iload 4, 2) := by decide +kernel
theorem d11_turn_78 : decode b11_turn 78 = .ok (.aload_n 0, 1) := by decide +kernel
theorem d11_turn_79 : decode b11_turn 79 = .ok (.getfield 84, 3) := by decide +kernel
theorem d11_turn_82 : decode b11_turn 82 = .ok (.getfield 272, 3) := by decide +kernel
theorem d11_turn_85 : decode b11_turn 85 = .ok (.invokestatic 278, 3) := by decide +kernel
theorem d11_turn_88 : decode b11_turn 88 = .ok (.istore 4, 2) := by decide +kernel
theorem d11_turn_90 : decode b11_turn 90 = .ok (.iinc 5 1, 3) := by decide +kernel
theorem d11_turn_93 : decode b11_turn 93 = .ok (.goto (-68), 3) := by decide +kernel
theorem d11_turn_96 : decode b11_turn 96 = .ok (.iconst (-1), 1) := by decide +kernel
theorem d11_turn_97 : decode b11_turn 97 = .ok (.ireturn, 1) := by decide +kernel
theorem mc11_without : Cond.code y11_without b11_without 2 (some .int) ∈ ce_cm := ce_cm_of (List.mem_of_getElem? (i := 1045) (by decide +kernel)) (by decide +kernel)
theorem ml_11_278 : Cond.methodLink cn_11 278 y11_without ∈ ce_cm := ce_cm_of (List.mem_of_getElem? (i := 1043) (by decide +kernel)) (by decide +kernel)
theorem mt11_without : Cond.static y11_without ∈ ce_cm := ce_cm_of (List.mem_of_getElem? (i := 1044) (by decide +kernel)) (by decide +kernel)
def f11_turn_b25 (F : Nat) (x2 : Int32) (x4 : Int32) (x5 : Int32) (h : Hp) : Option ((Int32 × Int32 × Hp) ⊕ ((Int32 × Hp) ⊕ (Hp))) :=
  if (10 : Int32) ≤ x5 then
    some (.inr (.inr h))
  else
    if x4 = 0 then
      some (.inr (.inr h))
    else
      ce_nm ((h 0 2).toNatClampNeg) (fun k_42 => if ce_isNet k_42 then
        Option.bind (f1_ask F k_42 48 x4 h) (fun o59 =>
          if x5 = x2 then
            some (.inr (.inl (o59 65 0, o59)))
          else
            Option.bind (f11_without F x4 (o59 65 0) o59) (fun o85 =>
              some (.inl (o85.1, x5 + (1 : Int32), o85.2))))
      else none)
set_option maxRecDepth 20000 in
theorem l11_turn_25 (C : ce_Cx p s m args c meth b11_turn 6 (some .int) cn_11 D ad cA B0 (ce_St aK aV B0)) (F : Nat) (x2 : Int32)  (r : Int32 × Hp) (g : ((Int32 × Hp) ⊕ (Hp)) → Option (Int32 × Hp)) (hx : ∀  (h : Hp) (H : Heap) (locs : List Loc) (ls : Array Slot), ce_H D ad cA B0 [] s h H locs → lv_has ls 6 [] → g (.inr h) = some r → W p l e0 { frames := 4, cells := 0, slots := 0, locals := 101 } s m args below meth c H locs 0 0 (MQ below (ce_Q D ad cA B0 (ce_St aK aV B0) (some (.int r.1)) r.2) args s 0 0 (fun q => B0 ≤ q)) (F0 m 96 ls [])) (he : ∀ z, g (.inl z) = some z) : ∀ (n : Nat) (x4 : Int32) (x5 : Int32) (h : Hp) (H : Heap) (locs : List Loc) (ls : Array Slot), ce_H D ad cA B0 [] s h H locs → lv_has ls 6 [(0, .ref (ad 0)), (2, .int x2), (4, .int x4), (5, .int x5)] → Option.bind (ce_it (fun (st : Int32 × Int32 × Hp) => f11_turn_b25 F x2 st.1 st.2.1 st.2.2) n (x4, x5, h)) g = some r → W p l e0 { frames := 4, cells := 0, slots := 0, locals := 101 } s m args below meth c H locs 0 0 (MQ below (ce_Q D ad cA B0 (ce_St aK aV B0) (some (.int r.1)) r.2) args s 0 0 (fun q => B0 ≤ q)) (F0 m 25 ls []) := by
  intro n
  induction n with
  | zero =>
    intro x4 x5 h H locs ls hH hl e
    exact absurd e (fun z => by cases z)
  | succ n ih =>
    intro x4 x5 h H locs ls hH hl e
    have hx9 := C.1
    have hb := C.2.1
    have e : Option.bind (f11_turn_b25 F x2 x4 x5 h) _ = some r := ce_it_bd e
    unfold f11_turn_b25 at e
    refine lv_iload hx9 hb d11_turn_25 (lv_at hl 3 rfl) ?_
    refine lv_bipush (v := (10 : Int32)) hx9 hb d11_turn_27 (by decide) ?_
    refine lv_icmp_ge (tgt := 96) hx9 hb d11_turn_29 (by decide) (fun hc29 => ?_) (fun hc29 => ?_)
    · have e := ce_if1 e hc29
      exact hx  h _ _ _ hH (lv_sub hl [] rfl) e
    · have e := ce_if0 e hc29
      refine lv_iload hx9 hb d11_turn_32 (lv_at hl 2 rfl) ?_
      refine lv_if_eq (tgt := 96) hx9 hb d11_turn_34 (by decide) (fun hc34 => ?_) (fun hc34 => ?_)
      · have e := ce_if1 e hc34
        exact hx  h _ _ _ hH (lv_sub hl [] rfl) e
      · have e := ce_if0 e hc34
        refine lv_aload_n hx9 hb d11_turn_37 rfl (lv_at hl 0 rfl) ?_
        refine gf_11_84 C hH d11_turn_38 ?_
        refine lv_aload_n hx9 hb d11_turn_41 rfl (lv_at hl 0 rfl) ?_
        refine gf_11_26 C hH d11_turn_42 ?_
        obtain ⟨k_42, ek_42, e⟩ := ce_nmE e
        obtain ⟨hk_42, e⟩ := ce_gd e
        rw [← ek_42]
        refine lv_aload_n hx9 hb d11_turn_45 rfl (lv_at hl 0 rfl) ?_
        refine gf_11_67 C hH d11_turn_46 ?_
        refine lv_aload_n hx9 hb d11_turn_49 rfl (lv_at hl 0 rfl) ?_
        refine gf_11_77 C hH d11_turn_50 ?_
        refine lv_aload_n hx9 hb d11_turn_53 rfl (lv_at hl 0 rfl) ?_
        refine gf_11_60 C hH d11_turn_54 ?_
        refine lv_iload hx9 hb d11_turn_57 (lv_at hl 2 rfl) ?_
        obtain ⟨o59, eo59, e⟩ := ce_bd e
        refine ce_callV (As := [.ref (ad k_42), .ref (ad 48), .ref (ad 62), .ref (ad 44), .int x4]) (rest := []) C (ce_sok aK aV B0) hH (c1_ask l D ad cA aK aV B0 C.2.2.2.2.2.2.1 F k_42 48 x4 hk_42 (Or.inl rfl) h o59 eo59) lo_65.1 lo_65.2.choose_spec rfl rfl mc1_ask ml_11_268 mi1_ask ms1_ask mI_1 (n := 5) (by decide) rfl ⟨Nat.le_of_ble_eq_true rfl, Nat.le_of_ble_eq_true rfl⟩ ⟨Nat.le_of_ble_eq_true rfl, Nat.le_of_ble_eq_true rfl⟩ hl.1 rfl (Nat.le_of_ble_eq_true rfl) d11_turn_59 (fun H locs hH => ?_)
        refine W.eq (g2 := F0 m 62 ls []) rfl ?_
        refine lv_iload hx9 hb d11_turn_62 (lv_at hl 3 rfl) ?_
        refine lv_iload_n hx9 hb d11_turn_64 rfl (lv_at hl 1 rfl) ?_
        refine lv_icmp_ne (tgt := 76) hx9 hb d11_turn_65 (by decide) (fun hc65 => ?_) (fun hc65 => ?_)
        · have e := ce_if0 e hc65
          refine lv_iload hx9 hb d11_turn_76 (lv_at hl 2 rfl) ?_
          refine lv_aload_n hx9 hb d11_turn_78 rfl (lv_at hl 0 rfl) ?_
          refine gf_11_84 C hH d11_turn_79 ?_
          refine gf_11_272 C hH d11_turn_82 ?_
          obtain ⟨o85, eo85, e⟩ := ce_bd e
          refine ce_callS (As := [.int x4, .int (o59 65 0)]) (rest := []) C (ce_sok aK aV B0) hH (c11_without l D ad cA aK aV B0 C.2.2.2.2.2.2.1 F x4 (o59 65 0)  o59 o85 eo85) mc11_without ml_11_278 mt11_without mI_11 (n := 2) (by decide) rfl ⟨Nat.le_of_ble_eq_true rfl, Nat.le_of_ble_eq_true rfl⟩ ⟨Nat.le_of_ble_eq_true rfl, Nat.le_of_ble_eq_true rfl⟩ hl.1 rfl (Nat.le_of_ble_eq_true rfl) d11_turn_85 (fun H locs hH => ?_)
          refine W.eq (g2 := F0 m 88 ls [.int o85.1]) rfl ?_
          refine lv_istore (lv' := [(4, .int o85.1), (0, .ref (ad 0)), (2, .int x2), (5, .int x5)]) hx9 hb d11_turn_88 hl (by decide) rfl (fun ls hl => ?_)
          refine lv_iinc (v := x5 + (1 : Int32)) (lv' := [(5, .int (x5 + (1 : Int32))), (4, .int o85.1), (0, .ref (ad 0)), (2, .int x2)]) hx9 hb d11_turn_90 hl (k := 3) rfl rfl (by decide) rfl (fun ls hl => ?_)
          refine lv_goto (tgt := 25) hx9 hb d11_turn_93 (by decide) ?_
          exact ih o85.1 (x5 + (1 : Int32)) o85.2 _ _ _ hH (lv_sub hl [2, 3, 1, 0] rfl) e
        · have e := ce_if1 e hc65
          refine lv_aload_n hx9 hb d11_turn_68 rfl (lv_at hl 0 rfl) ?_
          refine gf_11_84 C hH d11_turn_69 ?_
          refine gf_11_272 C hH d11_turn_72 ?_
          have e := (he _).symm.trans e
          exact ce_iretE C (ce_sok aK aV B0) hH e d11_turn_75
def f11_turn (F : Nat) (x1 : Int32) (x2 : Int32) (h : Hp) : Option (Int32 × Hp) :=
  if 0 ≤ x2 then
    Option.bind (f11_setRefusal F x1 h) (fun o9 =>
      if o9.1 = 0 then
        Option.bind (ce_it (fun (st : Int32 × Int32 × Hp) => f11_turn_b25 F x2 st.1 st.2.1 st.2.2) F (x1, (0 : Int32), o9.2)) (fun o25w => match o25w with
          | .inl z => some z
          | .inr o25 =>
            some ((-1 : Int32), o25))
      else
        some (o9.1, o9.2))
  else
    some ((-2 : Int32), h)
set_option maxRecDepth 20000 in
theorem c11_turn (l : Launch) (D : va_G) (ad : Nat → Nat) (cA : Nat → ClassId) (aK aV : Nat → Nat) (B0 : Nat) (hA : ce_Ad ad B0) (F : Nat) (x1 : Int32) (x2 : Int32)  (h : Hp) (r : Int32 × Hp) (e : f11_turn F x1 x2 h = some r) : ce_Ct l D ad cA B0 (ce_St aK aV B0) y11_turn b11_turn 6 (some .int) 4 101 0 0 [.ref (ad 0), .int x1, .int x2] h (some (.int r.1)) r.2 := by
  refine ce_enter hA (by decide) rfl (Nat.le_of_ble_eq_true rfl) (fun p e0 s m below meth c ls C hH hl => ?_)
  have hl : lv_has ls 6 [(0, .ref (ad 0)), (1, .int x1), (2, .int x2)] := hl
  have hx := C.1
  have hb := C.2.1
  have e : Option.bind _ some = some r := (congrArg (fun z => Option.bind z some) e).trans rfl
  unfold f11_turn at e
  refine lv_iload_n hx hb d11_turn_0 rfl (lv_at hl 2 rfl) ?_
  refine lv_if_ge (tgt := 7) hx hb d11_turn_1 (by decide) (fun hc1 => ?_) (fun hc1 => ?_)
  · have e := ce_if1 e hc1
    refine lv_aload_n hx hb d11_turn_7 rfl (lv_at hl 0 rfl) ?_
    refine lv_iload_n hx hb d11_turn_8 rfl (lv_at hl 1 rfl) ?_
    obtain ⟨o9, eo9, e⟩ := ce_bd e
    refine ce_callV (As := [.int x1]) (rest := []) C (ce_sok aK aV B0) hH (c11_setRefusal l D ad cA aK aV B0 C.2.2.2.2.2.2.1 F x1  h o9 eo9) lo_0.1 lo_0.2.choose_spec rfl rfl mc11_setRefusal ml_11_265 mi11_setRefusal ms11_setRefusal mI_11 (n := 1) (by decide) rfl ⟨Nat.le_of_ble_eq_true rfl, Nat.le_of_ble_eq_true rfl⟩ ⟨Nat.le_of_ble_eq_true rfl, Nat.le_of_ble_eq_true rfl⟩ hl.1 rfl (Nat.le_of_ble_eq_true rfl) d11_turn_9 (fun H locs hH => ?_)
    refine W.eq (g2 := F0 m 12 ls [.int o9.1]) rfl ?_
    refine lv_istore_n (lv' := [(3, .int o9.1), (0, .ref (ad 0)), (1, .int x1), (2, .int x2)]) hx hb d11_turn_12 rfl hl (by decide) rfl (fun ls hl => ?_)
    refine lv_iload_n hx hb d11_turn_13 rfl (lv_at hl 0 rfl) ?_
    refine lv_if_eq (tgt := 19) hx hb d11_turn_14 (by decide) (fun hc14 => ?_) (fun hc14 => ?_)
    · have e := ce_if1 e hc14
      refine lv_iload_n hx hb d11_turn_19 rfl (lv_at hl 2 rfl) ?_
      refine lv_istore (lv' := [(4, .int x1), (3, .int o9.1), (0, .ref (ad 0)), (1, .int x1), (2, .int x2)]) hx hb d11_turn_20 hl (by decide) rfl (fun ls hl => ?_)
      refine lv_iconst (v := (0 : Int32)) hx hb d11_turn_22 (by decide) ?_
      refine lv_istore (lv' := [(5, .int (0 : Int32)), (4, .int x1), (3, .int o9.1), (0, .ref (ad 0)), (1, .int x1), (2, .int x2)]) hx hb d11_turn_23 hl (by decide) rfl (fun ls hl => ?_)
      refine l11_turn_25 C F x2  r _ (fun  h_25 H locs ls hH hl e => ?_) (fun z => rfl) F x1 (0 : Int32) o9.2 _ _ _ hH (lv_sub hl [3, 5, 1, 0] rfl) (ce_as e)
      try dsimp only at e
      refine lv_iconst (v := (-1 : Int32)) hx hb d11_turn_96 (by decide) ?_
      exact ce_iretE C (ce_sok aK aV B0) hH e d11_turn_97
    · have e := ce_if0 e hc14
      refine lv_iload_n hx hb d11_turn_17 rfl (lv_at hl 0 rfl) ?_
      exact ce_iretE C (ce_sok aK aV B0) hH e d11_turn_18
  · have e := ce_if0 e hc1
    refine lv_bipush (v := (-2 : Int32)) hx hb d11_turn_4 (by decide) ?_
    exact ce_iretE C (ce_sok aK aV B0) hH e d11_turn_6
abbrev b11_fair : ByteArray := prog_1_method_31_code
def y11_fair : MethodName := ⟨cn_11, "fair", "(I)I"⟩
theorem d11_fair_0 : decode b11_fair 0 = .ok (.iload_n 1, 1) := by decide +kernel
theorem d11_fair_1 : decode b11_fair 1 = .ok (.ifCond .ne 5, 3) := by decide +kernel
theorem d11_fair_4 : decode b11_fair 4 = .ok (.iconst 0, 1) := by decide +kernel
theorem d11_fair_5 : decode b11_fair 5 = .ok (.ireturn, 1) := by decide +kernel
theorem d11_fair_6 : decode b11_fair 6 = .ok (.aload_n 0, 1) := by decide +kernel
theorem d11_fair_7 : decode b11_fair 7 = .ok (.iload_n 1, 1) := by decide +kernel
theorem d11_fair_8 : decode b11_fair 8 = .ok (.invokevirtual 265, 3) := by decide +kernel
theorem d11_fair_11 : decode b11_fair 11 = .ok (.istore_n 2, 1) := by decide +kernel
theorem d11_fair_12 : decode b11_fair 12 = .ok (.iload_n 2, 1) := by decide +kernel
theorem d11_fair_13 : decode b11_fair 13 = .ok (.ifCond .eq 5, 3) := by decide +kernel
theorem d11_fair_16 : decode b11_fair 16 = .ok (.iload_n 2, 1) := by decide +kernel
theorem d11_fair_17 : decode b11_fair 17 = .ok (.ireturn, 1) := by decide +kernel
theorem d11_fair_18 : decode b11_fair 18 = .ok (.iload_n 1, 1) := by decide +kernel
theorem d11_fair_19 : decode b11_fair 19 = .ok (.istore_n 3, 1) := by decide +kernel
theorem d11_fair_20 : decode b11_fair 20 = .ok (.iconst 0, 1) := by decide +kernel
theorem d11_fair_21 : decode b11_fair 21 = .ok (.istore 4, 2) := by decide +kernel
theorem d11_fair_23 : decode b11_fair 23 = .ok (.iconst 0, 1) := by decide +kernel
theorem d11_fair_24 : decode b11_fair 24 = .ok (.istore 5, 2) := by decide +kernel
theorem d11_fair_26 : decode b11_fair 26 = .ok (.iload 5, 2) := by decide +kernel
theorem d11_fair_28 : decode b11_fair 28 = .ok (.bipush 10, 2) := by decide +kernel
theorem d11_fair_30 : decode b11_fair 30 = .ok (.if_icmp .ge 61, 3) := by decide +kernel
theorem d11_fair_33 : decode b11_fair 33 = .ok (.iload_n 3, 1) := by decide +kernel
theorem d11_fair_34 : decode b11_fair 34 = .ok (.ifCond .eq 57, 3) := by decide +kernel
theorem d11_fair_37 : decode b11_fair 37 = .ok (.aload_n 0, 1) := by decide +kernel
theorem d11_fair_38 : decode b11_fair 38 = .ok (.getfield 84, 3) := by decide +kernel
theorem d11_fair_41 : decode b11_fair 41 = .ok (.aload_n 0, 1) := by decide +kernel
theorem d11_fair_42 : decode b11_fair 42 = .ok (.getfield 26, 3) := by decide +kernel
theorem d11_fair_45 : decode b11_fair 45 = .ok (.aload_n 0, 1) := by decide +kernel
theorem d11_fair_46 : decode b11_fair 46 = .ok (.getfield 67, 3) := by decide +kernel
theorem d11_fair_49 : decode b11_fair 49 = .ok (.aload_n 0, 1) := by decide +kernel
theorem d11_fair_50 : decode b11_fair 50 = .ok (.getfield 77, 3) := by decide +kernel
theorem d11_fair_53 : decode b11_fair 53 = .ok (.aload_n 0, 1) := by decide +kernel
theorem d11_fair_54 : decode b11_fair 54 = .ok (.getfield 60, 3) := by decide +kernel
theorem d11_fair_57 : decode b11_fair 57 = .ok (.iload_n 3, 1) := by decide +kernel
theorem d11_fair_58 : decode b11_fair 58 = .ok (.invokevirtual 268, 3) := by decide +kernel
theorem d11_fair_61 : decode b11_fair 61 = .ok (.iload 4, 2) := by decide +kernel
theorem d11_fair_63 : decode b11_fair 63 = .ok (.aload_n 0, 1) := by decide +kernel
theorem d11_fair_64 : decode b11_fair 64 = .ok (.getfield 84, 3) := by decide +kernel
theorem d11_fair_67 : decode b11_fair 67 = .ok (.getfield 275, 3) := by decide +kernel
theorem d11_fair_70 : decode b11_fair 70 = .ok (.iadd, 1) := by decide +kernel
theorem d11_fair_71 : decode b11_fair 71 = .ok (.istore 4, 2) := by decide +kernel
theorem d11_fair_73 : decode b11_fair 73 = .ok (.iload_n 3, 1) := by decide +kernel
theorem d11_fair_74 : decode b11_fair 74 = .ok (.aload_n 0, 1) := by decide +kernel
theorem d11_fair_75 : decode b11_fair 75 = .ok (.getfield 84, 3) := by decide +kernel
theorem d11_fair_78 : decode b11_fair 78 = .ok (.getfield 272, 3) := by decide +kernel
theorem d11_fair_81 : decode b11_fair 81 = .ok (.invokestatic 278, 3) := by decide +kernel
theorem d11_fair_84 : decode b11_fair 84 = .ok (.istore_n 3, 1) := by decide +kernel
theorem d11_fair_85 : decode b11_fair 85 = .ok (.iinc 5 1, 3) := by decide +kernel
theorem d11_fair_88 : decode b11_fair 88 = .ok (.goto (-62), 3) := by decide +kernel
theorem d11_fair_91 : decode b11_fair 91 = .ok (.iload 4, 2) := by decide +kernel
theorem d11_fair_93 : decode b11_fair 93 = .ok (.ireturn, 1) := by decide +kernel
def f11_fair_b26 (F : Nat) (x3 : Int32) (x4 : Int32) (x5 : Int32) (h : Hp) : Option ((Int32 × Int32 × Int32 × Hp) ⊕ (Int32 × Hp)) :=
  if (10 : Int32) ≤ x5 then
    some (.inr (x4, h))
  else
    if x3 = 0 then
      some (.inr (x4, h))
    else
      ce_nm ((h 0 2).toNatClampNeg) (fun k_42 => if ce_isNet k_42 then
        Option.bind (f1_ask F k_42 48 x3 h) (fun o58 =>
          Option.bind (f11_without F x3 (o58 65 0) o58) (fun o81 =>
            some (.inl (o81.1, x4 + (o58 65 1), x5 + (1 : Int32), o81.2))))
      else none)
set_option maxRecDepth 20000 in
theorem l11_fair_26 (C : ce_Cx p s m args c meth b11_fair 6 (some .int) cn_11 D ad cA B0 (ce_St aK aV B0)) (F : Nat)   (r : Int32 × Hp) (g : (Int32 × Hp) → Option (Int32 × Hp)) (hx : ∀ (x4 : Int32) (h : Hp) (H : Heap) (locs : List Loc) (ls : Array Slot), ce_H D ad cA B0 [] s h H locs → lv_has ls 6 [(4, .int x4)] → g (x4, h) = some r → W p l e0 { frames := 4, cells := 0, slots := 0, locals := 101 } s m args below meth c H locs 0 0 (MQ below (ce_Q D ad cA B0 (ce_St aK aV B0) (some (.int r.1)) r.2) args s 0 0 (fun q => B0 ≤ q)) (F0 m 91 ls [])) : ∀ (n : Nat) (x3 : Int32) (x4 : Int32) (x5 : Int32) (h : Hp) (H : Heap) (locs : List Loc) (ls : Array Slot), ce_H D ad cA B0 [] s h H locs → lv_has ls 6 [(0, .ref (ad 0)), (3, .int x3), (4, .int x4), (5, .int x5)] → Option.bind (ce_it (fun (st : Int32 × Int32 × Int32 × Hp) => f11_fair_b26 F  st.1 st.2.1 st.2.2.1 st.2.2.2) n (x3, x4, x5, h)) g = some r → W p l e0 { frames := 4, cells := 0, slots := 0, locals := 101 } s m args below meth c H locs 0 0 (MQ below (ce_Q D ad cA B0 (ce_St aK aV B0) (some (.int r.1)) r.2) args s 0 0 (fun q => B0 ≤ q)) (F0 m 26 ls []) := by
  intro n
  induction n with
  | zero =>
    intro x3 x4 x5 h H locs ls hH hl e
    exact absurd e (fun z => by cases z)
  | succ n ih =>
    intro x3 x4 x5 h H locs ls hH hl e
    have hx9 := C.1
    have hb := C.2.1
    have e : Option.bind (f11_fair_b26 F  x3 x4 x5 h) _ = some r := ce_it_bd e
    unfold f11_fair_b26 at e
    refine lv_iload hx9 hb d11_fair_26 (lv_at hl 3 rfl) ?_
    refine lv_bipush (v := (10 : Int32)) hx9 hb d11_fair_28 (by decide) ?_
    refine lv_icmp_ge (tgt := 91) hx9 hb d11_fair_30 (by decide) (fun hc30 => ?_) (fun hc30 => ?_)
    · have e := ce_if1 e hc30
      exact hx x4 h _ _ _ hH (lv_sub hl [2] rfl) e
    · have e := ce_if0 e hc30
      refine lv_iload_n hx9 hb d11_fair_33 rfl (lv_at hl 1 rfl) ?_
      refine lv_if_eq (tgt := 91) hx9 hb d11_fair_34 (by decide) (fun hc34 => ?_) (fun hc34 => ?_)
      · have e := ce_if1 e hc34
        exact hx x4 h _ _ _ hH (lv_sub hl [2] rfl) e
      · have e := ce_if0 e hc34
        refine lv_aload_n hx9 hb d11_fair_37 rfl (lv_at hl 0 rfl) ?_
        refine gf_11_84 C hH d11_fair_38 ?_
        refine lv_aload_n hx9 hb d11_fair_41 rfl (lv_at hl 0 rfl) ?_
        refine gf_11_26 C hH d11_fair_42 ?_
        obtain ⟨k_42, ek_42, e⟩ := ce_nmE e
        obtain ⟨hk_42, e⟩ := ce_gd e
        rw [← ek_42]
        refine lv_aload_n hx9 hb d11_fair_45 rfl (lv_at hl 0 rfl) ?_
        refine gf_11_67 C hH d11_fair_46 ?_
        refine lv_aload_n hx9 hb d11_fair_49 rfl (lv_at hl 0 rfl) ?_
        refine gf_11_77 C hH d11_fair_50 ?_
        refine lv_aload_n hx9 hb d11_fair_53 rfl (lv_at hl 0 rfl) ?_
        refine gf_11_60 C hH d11_fair_54 ?_
        refine lv_iload_n hx9 hb d11_fair_57 rfl (lv_at hl 1 rfl) ?_
        obtain ⟨o58, eo58, e⟩ := ce_bd e
        refine ce_callV (As := [.ref (ad k_42), .ref (ad 48), .ref (ad 62), .ref (ad 44), .int x3]) (rest := []) C (ce_sok aK aV B0) hH (c1_ask l D ad cA aK aV B0 C.2.2.2.2.2.2.1 F k_42 48 x3 hk_42 (Or.inl rfl) h o58 eo58) lo_65.1 lo_65.2.choose_spec rfl rfl mc1_ask ml_11_268 mi1_ask ms1_ask mI_1 (n := 5) (by decide) rfl ⟨Nat.le_of_ble_eq_true rfl, Nat.le_of_ble_eq_true rfl⟩ ⟨Nat.le_of_ble_eq_true rfl, Nat.le_of_ble_eq_true rfl⟩ hl.1 rfl (Nat.le_of_ble_eq_true rfl) d11_fair_58 (fun H locs hH => ?_)
        refine W.eq (g2 := F0 m 61 ls []) rfl ?_
        refine lv_iload hx9 hb d11_fair_61 (lv_at hl 2 rfl) ?_
        refine lv_aload_n hx9 hb d11_fair_63 rfl (lv_at hl 0 rfl) ?_
        refine gf_11_84 C hH d11_fair_64 ?_
        refine gf_11_275 C hH d11_fair_67 ?_
        refine lv_iadd hx9 hb d11_fair_70 ?_
        refine lv_istore (lv' := [(4, .int (x4 + (o58 65 1))), (0, .ref (ad 0)), (3, .int x3), (5, .int x5)]) hx9 hb d11_fair_71 hl (by decide) rfl (fun ls hl => ?_)
        refine lv_iload_n hx9 hb d11_fair_73 rfl (lv_at hl 2 rfl) ?_
        refine lv_aload_n hx9 hb d11_fair_74 rfl (lv_at hl 1 rfl) ?_
        refine gf_11_84 C hH d11_fair_75 ?_
        refine gf_11_272 C hH d11_fair_78 ?_
        obtain ⟨o81, eo81, e⟩ := ce_bd e
        refine ce_callS (As := [.int x3, .int (o58 65 0)]) (rest := []) C (ce_sok aK aV B0) hH (c11_without l D ad cA aK aV B0 C.2.2.2.2.2.2.1 F x3 (o58 65 0)  o58 o81 eo81) mc11_without ml_11_278 mt11_without mI_11 (n := 2) (by decide) rfl ⟨Nat.le_of_ble_eq_true rfl, Nat.le_of_ble_eq_true rfl⟩ ⟨Nat.le_of_ble_eq_true rfl, Nat.le_of_ble_eq_true rfl⟩ hl.1 rfl (Nat.le_of_ble_eq_true rfl) d11_fair_81 (fun H locs hH => ?_)
        refine W.eq (g2 := F0 m 84 ls [.int o81.1]) rfl ?_
        refine lv_istore_n (lv' := [(3, .int o81.1), (4, .int (x4 + (o58 65 1))), (0, .ref (ad 0)), (5, .int x5)]) hx9 hb d11_fair_84 rfl hl (by decide) rfl (fun ls hl => ?_)
        refine lv_iinc (v := x5 + (1 : Int32)) (lv' := [(5, .int (x5 + (1 : Int32))), (3, .int o81.1), (4, .int (x4 + (o58 65 1))), (0, .ref (ad 0))]) hx9 hb d11_fair_85 hl (k := 3) rfl rfl (by decide) rfl (fun ls hl => ?_)
        refine lv_goto (tgt := 26) hx9 hb d11_fair_88 (by decide) ?_
        exact ih o81.1 (x4 + (o58 65 1)) (x5 + (1 : Int32)) o81.2 _ _ _ hH (lv_sub hl [3, 1, 2, 0] rfl) e
def f11_fair (F : Nat) (x1 : Int32) (h : Hp) : Option (Int32 × Hp) :=
  if x1 = 0 then
    some ((0 : Int32), h)
  else
    Option.bind (f11_setRefusal F x1 h) (fun o8 =>
      if o8.1 = 0 then
        Option.bind (ce_it (fun (st : Int32 × Int32 × Int32 × Hp) => f11_fair_b26 F  st.1 st.2.1 st.2.2.1 st.2.2.2) F (x1, (0 : Int32), (0 : Int32), o8.2)) (fun o26 =>
          some (o26.1, o26.2))
      else
        some (o8.1, o8.2))
set_option maxRecDepth 20000 in
theorem c11_fair (l : Launch) (D : va_G) (ad : Nat → Nat) (cA : Nat → ClassId) (aK aV : Nat → Nat) (B0 : Nat) (hA : ce_Ad ad B0) (F : Nat) (x1 : Int32)  (h : Hp) (r : Int32 × Hp) (e : f11_fair F x1 h = some r) : ce_Ct l D ad cA B0 (ce_St aK aV B0) y11_fair b11_fair 6 (some .int) 4 101 0 0 [.ref (ad 0), .int x1] h (some (.int r.1)) r.2 := by
  refine ce_enter hA (by decide) rfl (Nat.le_of_ble_eq_true rfl) (fun p e0 s m below meth c ls C hH hl => ?_)
  have hl : lv_has ls 6 [(0, .ref (ad 0)), (1, .int x1)] := hl
  have hx := C.1
  have hb := C.2.1
  have e : Option.bind _ some = some r := (congrArg (fun z => Option.bind z some) e).trans rfl
  unfold f11_fair at e
  refine lv_iload_n hx hb d11_fair_0 rfl (lv_at hl 1 rfl) ?_
  refine lv_if_ne (tgt := 6) hx hb d11_fair_1 (by decide) (fun hc1 => ?_) (fun hc1 => ?_)
  · have e := ce_if0 e hc1
    refine lv_aload_n hx hb d11_fair_6 rfl (lv_at hl 0 rfl) ?_
    refine lv_iload_n hx hb d11_fair_7 rfl (lv_at hl 1 rfl) ?_
    obtain ⟨o8, eo8, e⟩ := ce_bd e
    refine ce_callV (As := [.int x1]) (rest := []) C (ce_sok aK aV B0) hH (c11_setRefusal l D ad cA aK aV B0 C.2.2.2.2.2.2.1 F x1  h o8 eo8) lo_0.1 lo_0.2.choose_spec rfl rfl mc11_setRefusal ml_11_265 mi11_setRefusal ms11_setRefusal mI_11 (n := 1) (by decide) rfl ⟨Nat.le_of_ble_eq_true rfl, Nat.le_of_ble_eq_true rfl⟩ ⟨Nat.le_of_ble_eq_true rfl, Nat.le_of_ble_eq_true rfl⟩ hl.1 rfl (Nat.le_of_ble_eq_true rfl) d11_fair_8 (fun H locs hH => ?_)
    refine W.eq (g2 := F0 m 11 ls [.int o8.1]) rfl ?_
    refine lv_istore_n (lv' := [(2, .int o8.1), (0, .ref (ad 0)), (1, .int x1)]) hx hb d11_fair_11 rfl hl (by decide) rfl (fun ls hl => ?_)
    refine lv_iload_n hx hb d11_fair_12 rfl (lv_at hl 0 rfl) ?_
    refine lv_if_eq (tgt := 18) hx hb d11_fair_13 (by decide) (fun hc13 => ?_) (fun hc13 => ?_)
    · have e := ce_if1 e hc13
      refine lv_iload_n hx hb d11_fair_18 rfl (lv_at hl 2 rfl) ?_
      refine lv_istore_n (lv' := [(3, .int x1), (2, .int o8.1), (0, .ref (ad 0)), (1, .int x1)]) hx hb d11_fair_19 rfl hl (by decide) rfl (fun ls hl => ?_)
      refine lv_iconst (v := (0 : Int32)) hx hb d11_fair_20 (by decide) ?_
      refine lv_istore (lv' := [(4, .int (0 : Int32)), (3, .int x1), (2, .int o8.1), (0, .ref (ad 0)), (1, .int x1)]) hx hb d11_fair_21 hl (by decide) rfl (fun ls hl => ?_)
      refine lv_iconst (v := (0 : Int32)) hx hb d11_fair_23 (by decide) ?_
      refine lv_istore (lv' := [(5, .int (0 : Int32)), (4, .int (0 : Int32)), (3, .int x1), (2, .int o8.1), (0, .ref (ad 0)), (1, .int x1)]) hx hb d11_fair_24 hl (by decide) rfl (fun ls hl => ?_)
      refine l11_fair_26 C F   r _ (fun y26_4 h_26 H locs ls hH hl e => ?_) F x1 (0 : Int32) (0 : Int32) o8.2 _ _ _ hH (lv_sub hl [4, 2, 1, 0] rfl) (ce_as e)
      try dsimp only at e
      refine lv_iload hx hb d11_fair_91 (lv_at hl 0 rfl) ?_
      exact ce_iretE C (ce_sok aK aV B0) hH e d11_fair_93
    · have e := ce_if0 e hc13
      refine lv_iload_n hx hb d11_fair_16 rfl (lv_at hl 0 rfl) ?_
      exact ce_iretE C (ce_sok aK aV B0) hH e d11_fair_17
  · have e := ce_if1 e hc1
    refine lv_iconst (v := (0 : Int32)) hx hb d11_fair_4 (by decide) ?_
    exact ce_iretE C (ce_sok aK aV B0) hH e d11_fair_5
end C9
