-- the two large constructors (gen40.py)
abbrev b11_init : ByteArray := prog_1_method_1_code
def y11_init : MethodName := ⟨cn_11, "<init>", "()V"⟩
theorem d11_init_0 : decode b11_init 0 = .ok (.aload_n 0, 1) := by decide +kernel
theorem d11_init_1 : decode b11_init 1 = .ok (.invokespecial 1, 3) := by decide +kernel
theorem d11_init_4 : decode b11_init 4 = .ok (.aload_n 0, 1) := by decide +kernel
theorem d11_init_5 : decode b11_init 5 = .ok (.new 7, 3) := by decide +kernel
theorem d11_init_8 : decode b11_init 8 = .ok (.dup, 1) := by decide +kernel
theorem d11_init_9 : decode b11_init 9 = .ok (.invokespecial 9, 3) := by decide +kernel
theorem d11_init_12 : decode b11_init 12 = .ok (.putfield 10, 3) := by decide +kernel
theorem d11_init_15 : decode b11_init 15 = .ok (.aload_n 0, 1) := by decide +kernel
theorem d11_init_16 : decode b11_init 16 = .ok (.new 16, 3) := by decide +kernel
theorem d11_init_19 : decode b11_init 19 = .ok (.dup, 1) := by decide +kernel
theorem d11_init_20 : decode b11_init 20 = .ok (.invokespecial 18, 3) := by decide +kernel
theorem d11_init_23 : decode b11_init 23 = .ok (.putfield 19, 3) := by decide +kernel
theorem d11_init_26 : decode b11_init 26 = .ok (.aload_n 0, 1) := by decide +kernel
theorem d11_init_27 : decode b11_init 27 = .ok (.new 23, 3) := by decide +kernel
theorem d11_init_30 : decode b11_init 30 = .ok (.dup, 1) := by decide +kernel
theorem d11_init_31 : decode b11_init 31 = .ok (.invokespecial 25, 3) := by decide +kernel
theorem d11_init_34 : decode b11_init 34 = .ok (.putfield 26, 3) := by decide +kernel
theorem d11_init_37 : decode b11_init 37 = .ok (.aload_n 0, 1) := by decide +kernel
theorem d11_init_38 : decode b11_init 38 = .ok (.new 23, 3) := by decide +kernel
theorem d11_init_41 : decode b11_init 41 = .ok (.dup, 1) := by decide +kernel
theorem d11_init_42 : decode b11_init 42 = .ok (.invokespecial 25, 3) := by decide +kernel
theorem d11_init_45 : decode b11_init 45 = .ok (.putfield 30, 3) := by decide +kernel
theorem d11_init_48 : decode b11_init 48 = .ok (.aload_n 0, 1) := by decide +kernel
theorem d11_init_49 : decode b11_init 49 = .ok (.new 33, 3) := by decide +kernel
theorem d11_init_52 : decode b11_init 52 = .ok (.dup, 1) := by decide +kernel
theorem d11_init_53 : decode b11_init 53 = .ok (.invokespecial 35, 3) := by decide +kernel
theorem d11_init_56 : decode b11_init 56 = .ok (.putfield 36, 3) := by decide +kernel
theorem d11_init_59 : decode b11_init 59 = .ok (.aload_n 0, 1) := by decide +kernel
theorem d11_init_60 : decode b11_init 60 = .ok (.new 33, 3) := by decide +kernel
theorem d11_init_63 : decode b11_init 63 = .ok (.dup, 1) := by decide +kernel
theorem d11_init_64 : decode b11_init 64 = .ok (.invokespecial 35, 3) := by decide +kernel
theorem d11_init_67 : decode b11_init 67 = .ok (.putfield 40, 3) := by decide +kernel
theorem d11_init_70 : decode b11_init 70 = .ok (.aload_n 0, 1) := by decide +kernel
theorem d11_init_71 : decode b11_init 71 = .ok (.new 43, 3) := by decide +kernel
theorem d11_init_74 : decode b11_init 74 = .ok (.dup, 1) := by decide +kernel
theorem d11_init_75 : decode b11_init 75 = .ok (.invokespecial 45, 3) := by decide +kernel
theorem d11_init_78 : decode b11_init 78 = .ok (.putfield 46, 3) := by decide +kernel
theorem d11_init_81 : decode b11_init 81 = .ok (.aload_n 0, 1) := by decide +kernel
theorem d11_init_82 : decode b11_init 82 = .ok (.new 50, 3) := by decide +kernel
theorem d11_init_85 : decode b11_init 85 = .ok (.dup, 1) := by decide +kernel
theorem d11_init_86 : decode b11_init 86 = .ok (.invokespecial 52, 3) := by decide +kernel
theorem d11_init_89 : decode b11_init 89 = .ok (.putfield 53, 3) := by decide +kernel
theorem d11_init_92 : decode b11_init 92 = .ok (.aload_n 0, 1) := by decide +kernel
theorem d11_init_93 : decode b11_init 93 = .ok (.new 57, 3) := by decide +kernel
theorem d11_init_96 : decode b11_init 96 = .ok (.dup, 1) := by decide +kernel
theorem d11_init_97 : decode b11_init 97 = .ok (.invokespecial 59, 3) := by decide +kernel
theorem d11_init_100 : decode b11_init 100 = .ok (.putfield 60, 3) := by decide +kernel
theorem d11_init_103 : decode b11_init 103 = .ok (.aload_n 0, 1) := by decide +kernel
theorem d11_init_104 : decode b11_init 104 = .ok (.new 64, 3) := by decide +kernel
theorem d11_init_107 : decode b11_init 107 = .ok (.dup, 1) := by decide +kernel
theorem d11_init_108 : decode b11_init 108 = .ok (.invokespecial 66, 3) := by decide +kernel
theorem d11_init_111 : decode b11_init 111 = .ok (.putfield 67, 3) := by decide +kernel
theorem d11_init_114 : decode b11_init 114 = .ok (.aload_n 0, 1) := by decide +kernel
theorem d11_init_115 : decode b11_init 115 = .ok (.new 64, 3) := by decide +kernel
theorem d11_init_118 : decode b11_init 118 = .ok (.dup, 1) := by decide +kernel
theorem d11_init_119 : decode b11_init 119 = .ok (.invokespecial 66, 3) := by decide +kernel
theorem d11_init_122 : decode b11_init 122 = .ok (.putfield 71, 3) := by decide +kernel
theorem d11_init_125 : decode b11_init 125 = .ok (.aload_n 0, 1) := by decide +kernel
theorem d11_init_126 : decode b11_init 126 = .ok (.new 74, 3) := by decide +kernel
theorem d11_init_129 : decode b11_init 129 = .ok (.dup, 1) := by decide +kernel
theorem d11_init_130 : decode b11_init 130 = .ok (.invokespecial 76, 3) := by decide +kernel
theorem d11_init_133 : decode b11_init 133 = .ok (.putfield 77, 3) := by decide +kernel
theorem d11_init_136 : decode b11_init 136 = .ok (.aload_n 0, 1) := by decide +kernel
theorem d11_init_137 : decode b11_init 137 = .ok (.new 81, 3) := by decide +kernel
theorem d11_init_140 : decode b11_init 140 = .ok (.dup, 1) := by decide +kernel
theorem d11_init_141 : decode b11_init 141 = .ok (.invokespecial 83, 3) := by decide +kernel
theorem d11_init_144 : decode b11_init 144 = .ok (.putfield 84, 3) := by decide +kernel
theorem d11_init_147 : decode b11_init 147 = .ok (.return_, 1) := by decide +kernel
def cz_11 (cA : Nat → ClassId) (q : Nat) (x : Nat × (Nat × Nat) × Nat × (Nat × Nat) × Nat × (Nat × Nat × Nat × Nat × Nat × Nat × (Nat → Int32)) × Nat × (Nat × Nat × Nat × Nat × Nat × Nat × (Nat → Int32)) × Nat × (Nat × Nat × Nat × Nat × Nat × Nat) × Nat × (Nat × Nat × Nat × Nat × Nat × Nat) × Nat × (Nat × Nat × Nat × Nat) × Nat × (Nat × Nat × Nat) × Nat × (Nat × Nat × Nat) × Nat × (Nat × Nat × Nat × Nat × Nat × Nat) × Nat × (Nat × Nat × Nat × Nat × Nat × Nat) × Nat × (Nat × Nat) × Nat × (Nat × Nat)) : va_W := ((q, .inr (11, [.ref x.1, .ref x.2.2.1, .ref x.2.2.2.2.1, .ref x.2.2.2.2.2.2.1, .ref x.2.2.2.2.2.2.2.2.1, .ref x.2.2.2.2.2.2.2.2.2.2.1, .ref x.2.2.2.2.2.2.2.2.2.2.2.2.1, .ref x.2.2.2.2.2.2.2.2.2.2.2.2.2.2.1, .ref x.2.2.2.2.2.2.2.2.2.2.2.2.2.2.2.2.1, .ref x.2.2.2.2.2.2.2.2.2.2.2.2.2.2.2.2.2.2.1, .ref x.2.2.2.2.2.2.2.2.2.2.2.2.2.2.2.2.2.2.2.2.1, .ref x.2.2.2.2.2.2.2.2.2.2.2.2.2.2.2.2.2.2.2.2.2.2.1, .ref x.2.2.2.2.2.2.2.2.2.2.2.2.2.2.2.2.2.2.2.2.2.2.2.2.1])) :: ((((((((((((cz_6 cA x.1 x.2.1 ++ cz_8 cA x.2.2.1 x.2.2.2.1) ++ cz_5 cA x.2.2.2.2.1 x.2.2.2.2.2.1) ++ cz_5 cA x.2.2.2.2.2.2.1 x.2.2.2.2.2.2.2.1) ++ cz_9 cA x.2.2.2.2.2.2.2.2.1 x.2.2.2.2.2.2.2.2.2.1) ++ cz_9 cA x.2.2.2.2.2.2.2.2.2.2.1 x.2.2.2.2.2.2.2.2.2.2.2.1) ++ cz_0 cA x.2.2.2.2.2.2.2.2.2.2.2.2.1 x.2.2.2.2.2.2.2.2.2.2.2.2.2.1) ++ cz_10 cA x.2.2.2.2.2.2.2.2.2.2.2.2.2.2.1 x.2.2.2.2.2.2.2.2.2.2.2.2.2.2.2.1) ++ cz_2 cA x.2.2.2.2.2.2.2.2.2.2.2.2.2.2.2.2.1 x.2.2.2.2.2.2.2.2.2.2.2.2.2.2.2.2.2.1) ++ cz_3 cA x.2.2.2.2.2.2.2.2.2.2.2.2.2.2.2.2.2.2.1 x.2.2.2.2.2.2.2.2.2.2.2.2.2.2.2.2.2.2.2.1) ++ cz_3 cA x.2.2.2.2.2.2.2.2.2.2.2.2.2.2.2.2.2.2.2.2.1 x.2.2.2.2.2.2.2.2.2.2.2.2.2.2.2.2.2.2.2.2.2.1) ++ cz_4 cA x.2.2.2.2.2.2.2.2.2.2.2.2.2.2.2.2.2.2.2.2.2.2.1 x.2.2.2.2.2.2.2.2.2.2.2.2.2.2.2.2.2.2.2.2.2.2.2.1) ++ cz_1 cA x.2.2.2.2.2.2.2.2.2.2.2.2.2.2.2.2.2.2.2.2.2.2.2.2.1 x.2.2.2.2.2.2.2.2.2.2.2.2.2.2.2.2.2.2.2.2.2.2.2.2.2))
def cp_11 (x : Nat × (Nat × Nat) × Nat × (Nat × Nat) × Nat × (Nat × Nat × Nat × Nat × Nat × Nat × (Nat → Int32)) × Nat × (Nat × Nat × Nat × Nat × Nat × Nat × (Nat → Int32)) × Nat × (Nat × Nat × Nat × Nat × Nat × Nat) × Nat × (Nat × Nat × Nat × Nat × Nat × Nat) × Nat × (Nat × Nat × Nat × Nat) × Nat × (Nat × Nat × Nat) × Nat × (Nat × Nat × Nat) × Nat × (Nat × Nat × Nat × Nat × Nat × Nat) × Nat × (Nat × Nat × Nat × Nat × Nat × Nat) × Nat × (Nat × Nat) × Nat × (Nat × Nat)) : Prop := cp_5 x.2.2.2.2.2.1 ∧ cp_5 x.2.2.2.2.2.2.2.1
theorem mo_11 : Cond.methodLink cn_11 1 Lib.objectInit ∈ ce_cm := ce_cm_of (List.mem_of_getElem? (i := 114) (by decide +kernel)) (by decide +kernel)
theorem mL_11_7 : Cond.classLink cn_11 7 cn_6 ∈ ce_cm := ce_cm_of (List.mem_of_getElem? (i := 117) (by decide +kernel)) (by decide +kernel)
theorem mN_6 : Cond.instantiable cn_6 6 ∈ ce_cm := ce_cm_of (List.mem_of_getElem? (i := 118) (by decide +kernel)) (by decide +kernel)
theorem mc6_init : Cond.code y6_init b6_init 1 none ∈ ce_cm := ce_cm_of (List.mem_of_getElem? (i := 121) (by decide +kernel)) (by decide +kernel)
theorem mi6_init : Cond.instanceMethod y6_init ∈ ce_cm := ce_cm_of (List.mem_of_getElem? (i := 120) (by decide +kernel)) (by decide +kernel)
theorem mL_11_16 : Cond.classLink cn_11 16 cn_8 ∈ ce_cm := ce_cm_of (List.mem_of_getElem? (i := 169) (by decide +kernel)) (by decide +kernel)
theorem mN_8 : Cond.instantiable cn_8 2 ∈ ce_cm := ce_cm_of (List.mem_of_getElem? (i := 170) (by decide +kernel)) (by decide +kernel)
theorem mc8_init : Cond.code y8_init b8_init 1 none ∈ ce_cm := ce_cm_of (List.mem_of_getElem? (i := 173) (by decide +kernel)) (by decide +kernel)
theorem mi8_init : Cond.instanceMethod y8_init ∈ ce_cm := ce_cm_of (List.mem_of_getElem? (i := 172) (by decide +kernel)) (by decide +kernel)
theorem mL_11_23 : Cond.classLink cn_11 23 cn_5 ∈ ce_cm := ce_cm_of (List.mem_of_getElem? (i := 183) (by decide +kernel)) (by decide +kernel)
theorem mN_5 : Cond.instantiable cn_5 11 ∈ ce_cm := ce_cm_of (List.mem_of_getElem? (i := 184) (by decide +kernel)) (by decide +kernel)
theorem ml_11_25 : Cond.methodLink cn_11 25 y5_init ∈ ce_cm := ce_cm_of (List.mem_of_getElem? (i := 185) (by decide +kernel)) (by decide +kernel)
theorem mc5_init : Cond.code y5_init b5_init 1 none ∈ ce_cm := ce_cm_of (List.mem_of_getElem? (i := 187) (by decide +kernel)) (by decide +kernel)
theorem mi5_init : Cond.instanceMethod y5_init ∈ ce_cm := ce_cm_of (List.mem_of_getElem? (i := 186) (by decide +kernel)) (by decide +kernel)
theorem mL_11_33 : Cond.classLink cn_11 33 cn_9 ∈ ce_cm := ce_cm_of (List.mem_of_getElem? (i := 264) (by decide +kernel)) (by decide +kernel)
theorem mN_9 : Cond.instantiable cn_9 9 ∈ ce_cm := ce_cm_of (List.mem_of_getElem? (i := 265) (by decide +kernel)) (by decide +kernel)
theorem mc9_init : Cond.code y9_init b9_init 1 none ∈ ce_cm := ce_cm_of (List.mem_of_getElem? (i := 268) (by decide +kernel)) (by decide +kernel)
theorem mi9_init : Cond.instanceMethod y9_init ∈ ce_cm := ce_cm_of (List.mem_of_getElem? (i := 267) (by decide +kernel)) (by decide +kernel)
theorem mL_11_43 : Cond.classLink cn_11 43 cn_0 ∈ ce_cm := ce_cm_of (List.mem_of_getElem? (i := 302) (by decide +kernel)) (by decide +kernel)
theorem mN_0 : Cond.instantiable cn_0 5 ∈ ce_cm := ce_cm_of (List.mem_of_getElem? (i := 303) (by decide +kernel)) (by decide +kernel)
theorem mc0_init : Cond.code y0_init b0_init 1 none ∈ ce_cm := ce_cm_of (List.mem_of_getElem? (i := 306) (by decide +kernel)) (by decide +kernel)
theorem mi0_init : Cond.instanceMethod y0_init ∈ ce_cm := ce_cm_of (List.mem_of_getElem? (i := 305) (by decide +kernel)) (by decide +kernel)
theorem mL_11_50 : Cond.classLink cn_11 50 cn_10 ∈ ce_cm := ce_cm_of (List.mem_of_getElem? (i := 325) (by decide +kernel)) (by decide +kernel)
theorem mN_10 : Cond.instantiable cn_10 4 ∈ ce_cm := ce_cm_of (List.mem_of_getElem? (i := 326) (by decide +kernel)) (by decide +kernel)
theorem mc10_init : Cond.code y10_init b10_init 1 none ∈ ce_cm := ce_cm_of (List.mem_of_getElem? (i := 329) (by decide +kernel)) (by decide +kernel)
theorem mi10_init : Cond.instanceMethod y10_init ∈ ce_cm := ce_cm_of (List.mem_of_getElem? (i := 328) (by decide +kernel)) (by decide +kernel)
theorem mL_11_57 : Cond.classLink cn_11 57 cn_2 ∈ ce_cm := ce_cm_of (List.mem_of_getElem? (i := 349) (by decide +kernel)) (by decide +kernel)
theorem mN_2 : Cond.instantiable cn_2 5 ∈ ce_cm := ce_cm_of (List.mem_of_getElem? (i := 350) (by decide +kernel)) (by decide +kernel)
theorem mc2_init : Cond.code y2_init b2_init 1 none ∈ ce_cm := ce_cm_of (List.mem_of_getElem? (i := 353) (by decide +kernel)) (by decide +kernel)
theorem mi2_init : Cond.instanceMethod y2_init ∈ ce_cm := ce_cm_of (List.mem_of_getElem? (i := 352) (by decide +kernel)) (by decide +kernel)
theorem mL_11_64 : Cond.classLink cn_11 64 cn_3 ∈ ce_cm := ce_cm_of (List.mem_of_getElem? (i := 373) (by decide +kernel)) (by decide +kernel)
theorem mN_3 : Cond.instantiable cn_3 6 ∈ ce_cm := ce_cm_of (List.mem_of_getElem? (i := 374) (by decide +kernel)) (by decide +kernel)
theorem mc3_init : Cond.code y3_init b3_init 1 none ∈ ce_cm := ce_cm_of (List.mem_of_getElem? (i := 377) (by decide +kernel)) (by decide +kernel)
theorem mi3_init : Cond.instanceMethod y3_init ∈ ce_cm := ce_cm_of (List.mem_of_getElem? (i := 376) (by decide +kernel)) (by decide +kernel)
theorem mL_11_74 : Cond.classLink cn_11 74 cn_4 ∈ ce_cm := ce_cm_of (List.mem_of_getElem? (i := 402) (by decide +kernel)) (by decide +kernel)
theorem mN_4 : Cond.instantiable cn_4 2 ∈ ce_cm := ce_cm_of (List.mem_of_getElem? (i := 403) (by decide +kernel)) (by decide +kernel)
theorem mc4_init : Cond.code y4_init b4_init 1 none ∈ ce_cm := ce_cm_of (List.mem_of_getElem? (i := 406) (by decide +kernel)) (by decide +kernel)
theorem mi4_init : Cond.instanceMethod y4_init ∈ ce_cm := ce_cm_of (List.mem_of_getElem? (i := 405) (by decide +kernel)) (by decide +kernel)
theorem mL_11_81 : Cond.classLink cn_11 81 cn_1 ∈ ce_cm := ce_cm_of (List.mem_of_getElem? (i := 416) (by decide +kernel)) (by decide +kernel)
theorem mN_1 : Cond.instantiable cn_1 4 ∈ ce_cm := ce_cm_of (List.mem_of_getElem? (i := 417) (by decide +kernel)) (by decide +kernel)
theorem mc1_init : Cond.code y1_init b1_init 1 none ∈ ce_cm := ce_cm_of (List.mem_of_getElem? (i := 420) (by decide +kernel)) (by decide +kernel)
theorem mi1_init : Cond.instanceMethod y1_init ∈ ce_cm := ce_cm_of (List.mem_of_getElem? (i := 419) (by decide +kernel)) (by decide +kernel)
set_option maxRecDepth 20000 in
set_option maxHeartbeats 4000000 in
theorem ci_11 (l : Launch) (D : va_G) (cA : Nat → ClassId) (aK aV : Nat → Nat) (B0 : Nat) (pre : va_W) (q : Nat) : cx_Ct l D cA B0 (ce_St aK aV B0) y11_init b11_init 1 3 60 67 1708 [.ref q] (pre ++ [(q, .inr (11, [.null, .null, .null, .null, .null, .null, .null, .null, .null, .null, .null, .null, .null]))]) (fun x => cp_11 x) (fun x => pre ++ cz_11 cA q x) := by
  refine cx_enter (by decide) rfl rfl (Nat.le_of_ble_eq_true rfl) (fun p e0 s m below meth c ls C hH hl => ?_)
  have hl : lv_has ls 1 [(0, .ref q)] := hl
  have hx := C.1
  have hb := C.2.1
  refine lv_aload_n hx hb d11_init_0 rfl (lv_at hl 0 rfl) ?_
  refine cx_obj C mo_11 mI_obj mC_obj hl.1 d11_init_1 (Nat.le_of_ble_eq_true rfl) (Nat.le_of_ble_eq_true rfl) ?_
  refine lv_aload_n hx hb d11_init_4 rfl (lv_at hl 0 rfl) ?_
  refine cx_new C hH (ci := 6) (fs := [.null, .int 0, .int 0, .int 0, .int 0, .int 0]) rfl fw_6 fo_6 mL_11_7 mN_6 mI_6 (by decide +kernel) (Nat.le_of_ble_eq_true rfl) (Nat.le_of_ble_eq_true rfl) d11_init_5 (fun a5 H hH => ?_)
  refine lv_dup hx hb d11_init_8 rfl ?_
  refine cx_callIN (rest := [.ref a5, .ref q]) C (ce_sok aK aV B0) hH (ci_6 l D cA aK aV B0 (pre ++ [(q, .inr (11, [.null, .null, .null, .null, .null, .null, .null, .null, .null, .null, .null, .null, .null]))]) a5) rfl mc6_init (ce_nwW C.2.2.2.2.2.2.2.2.2.1 0 rfl) mi6_init mI_6 (by decide) ⟨Nat.le_of_ble_eq_true rfl, Nat.le_of_ble_eq_true rfl⟩ ⟨Nat.le_of_ble_eq_true rfl, Nat.le_of_ble_eq_true rfl⟩ hl.1 (Nat.le_of_ble_eq_true rfl) d11_init_9 (fun x9 H locs px9 hH => ?_)
  rw [List.append_assoc] at hH
  have hH : cx_H D B0 s (pre ++ ((q, .inr (11, [.null, .null, .null, .null, .null, .null, .null, .null, .null, .null, .null, .null, .null])) :: cz_6 cA a5 x9)) H locs := hH
  refine cx_put C hH (i := 0) (ci := 11) (j := 0) (N := 13) (fy := fy_11) (v := .ref a5) rfl rfl fw_11 fo_11 fn_11 (by decide) fl_11_10 rfl rfl rfl (Nat.le_of_ble_eq_true rfl) d11_init_12 (fun H locs hH => ?_)
  have hH : cx_H D B0 s (pre ++ ((q, .inr (11, [.ref a5, .null, .null, .null, .null, .null, .null, .null, .null, .null, .null, .null, .null])) :: cz_6 cA a5 x9)) _ _ := hH
  refine lv_aload_n hx hb d11_init_15 rfl (lv_at hl 0 rfl) ?_
  refine cx_new C hH (ci := 8) (fs := [.null, .null]) rfl fw_8 fo_8 mL_11_16 mN_8 mI_8 (by decide +kernel) (Nat.le_of_ble_eq_true rfl) (Nat.le_of_ble_eq_true rfl) d11_init_16 (fun a16 H hH => ?_)
  refine lv_dup hx hb d11_init_19 rfl ?_
  refine cx_callIN (rest := [.ref a16, .ref q]) C (ce_sok aK aV B0) hH (ci_8 l D cA aK aV B0 (pre ++ ((q, .inr (11, [.ref a5, .null, .null, .null, .null, .null, .null, .null, .null, .null, .null, .null, .null])) :: cz_6 cA a5 x9)) a16) rfl mc8_init (ce_nwW C.2.2.2.2.2.2.2.2.2.1 2 rfl) mi8_init mI_8 (by decide) ⟨Nat.le_of_ble_eq_true rfl, Nat.le_of_ble_eq_true rfl⟩ ⟨Nat.le_of_ble_eq_true rfl, Nat.le_of_ble_eq_true rfl⟩ hl.1 (Nat.le_of_ble_eq_true rfl) d11_init_20 (fun x20 H locs px20 hH => ?_)
  rw [List.append_assoc] at hH
  have hH : cx_H D B0 s (pre ++ ((q, .inr (11, [.ref a5, .null, .null, .null, .null, .null, .null, .null, .null, .null, .null, .null, .null])) :: (cz_6 cA a5 x9 ++ cz_8 cA a16 x20))) H locs := by rw [List.cons_append] at hH; exact hH
  refine cx_put C hH (i := 0) (ci := 11) (j := 1) (N := 13) (fy := fy_11) (v := .ref a16) rfl rfl fw_11 fo_11 fn_11 (by decide) fl_11_19 rfl rfl rfl (Nat.le_of_ble_eq_true rfl) d11_init_23 (fun H locs hH => ?_)
  have hH : cx_H D B0 s (pre ++ ((q, .inr (11, [.ref a5, .ref a16, .null, .null, .null, .null, .null, .null, .null, .null, .null, .null, .null])) :: (cz_6 cA a5 x9 ++ cz_8 cA a16 x20))) _ _ := hH
  refine lv_aload_n hx hb d11_init_26 rfl (lv_at hl 0 rfl) ?_
  refine cx_new C hH (ci := 5) (fs := [.int 0, .int 0, .int 0, .int 0, .int 0, .null, .null, .null, .null, .null, .null]) rfl fw_5 fo_5 mL_11_23 mN_5 mI_5 (by decide +kernel) (Nat.le_of_ble_eq_true rfl) (Nat.le_of_ble_eq_true rfl) d11_init_27 (fun a27 H hH => ?_)
  refine lv_dup hx hb d11_init_30 rfl ?_
  refine cx_callI (rest := [.ref a27, .ref q]) C (ce_sok aK aV B0) hH (ci_5 l D cA aK aV B0 (pre ++ ((q, .inr (11, [.ref a5, .ref a16, .null, .null, .null, .null, .null, .null, .null, .null, .null, .null, .null])) :: (cz_6 cA a5 x9 ++ cz_8 cA a16 x20))) a27) rfl mc5_init ml_11_25 mi5_init mI_5 (by decide) ⟨Nat.le_of_ble_eq_true rfl, Nat.le_of_ble_eq_true rfl⟩ ⟨Nat.le_of_ble_eq_true rfl, Nat.le_of_ble_eq_true rfl⟩ hl.1 (Nat.le_of_ble_eq_true rfl) d11_init_31 (fun x31 H locs px31 hH => ?_)
  rw [List.append_assoc] at hH
  have hH : cx_H D B0 s (pre ++ ((q, .inr (11, [.ref a5, .ref a16, .null, .null, .null, .null, .null, .null, .null, .null, .null, .null, .null])) :: ((cz_6 cA a5 x9 ++ cz_8 cA a16 x20) ++ cz_5 cA a27 x31))) H locs := by rw [List.cons_append] at hH; exact hH
  refine cx_put C hH (i := 0) (ci := 11) (j := 2) (N := 13) (fy := fy_11) (v := .ref a27) rfl rfl fw_11 fo_11 fn_11 (by decide) fl_11_26 rfl rfl rfl (Nat.le_of_ble_eq_true rfl) d11_init_34 (fun H locs hH => ?_)
  have hH : cx_H D B0 s (pre ++ ((q, .inr (11, [.ref a5, .ref a16, .ref a27, .null, .null, .null, .null, .null, .null, .null, .null, .null, .null])) :: ((cz_6 cA a5 x9 ++ cz_8 cA a16 x20) ++ cz_5 cA a27 x31))) _ _ := hH
  refine lv_aload_n hx hb d11_init_37 rfl (lv_at hl 0 rfl) ?_
  refine cx_new C hH (ci := 5) (fs := [.int 0, .int 0, .int 0, .int 0, .int 0, .null, .null, .null, .null, .null, .null]) rfl fw_5 fo_5 mL_11_23 mN_5 mI_5 (by decide +kernel) (Nat.le_of_ble_eq_true rfl) (Nat.le_of_ble_eq_true rfl) d11_init_38 (fun a38 H hH => ?_)
  refine lv_dup hx hb d11_init_41 rfl ?_
  refine cx_callI (rest := [.ref a38, .ref q]) C (ce_sok aK aV B0) hH (ci_5 l D cA aK aV B0 (pre ++ ((q, .inr (11, [.ref a5, .ref a16, .ref a27, .null, .null, .null, .null, .null, .null, .null, .null, .null, .null])) :: ((cz_6 cA a5 x9 ++ cz_8 cA a16 x20) ++ cz_5 cA a27 x31))) a38) rfl mc5_init ml_11_25 mi5_init mI_5 (by decide) ⟨Nat.le_of_ble_eq_true rfl, Nat.le_of_ble_eq_true rfl⟩ ⟨Nat.le_of_ble_eq_true rfl, Nat.le_of_ble_eq_true rfl⟩ hl.1 (Nat.le_of_ble_eq_true rfl) d11_init_42 (fun x42 H locs px42 hH => ?_)
  rw [List.append_assoc] at hH
  have hH : cx_H D B0 s (pre ++ ((q, .inr (11, [.ref a5, .ref a16, .ref a27, .null, .null, .null, .null, .null, .null, .null, .null, .null, .null])) :: (((cz_6 cA a5 x9 ++ cz_8 cA a16 x20) ++ cz_5 cA a27 x31) ++ cz_5 cA a38 x42))) H locs := by rw [List.cons_append] at hH; exact hH
  refine cx_put C hH (i := 0) (ci := 11) (j := 3) (N := 13) (fy := fy_11) (v := .ref a38) rfl rfl fw_11 fo_11 fn_11 (by decide) fl_11_30 rfl rfl rfl (Nat.le_of_ble_eq_true rfl) d11_init_45 (fun H locs hH => ?_)
  have hH : cx_H D B0 s (pre ++ ((q, .inr (11, [.ref a5, .ref a16, .ref a27, .ref a38, .null, .null, .null, .null, .null, .null, .null, .null, .null])) :: (((cz_6 cA a5 x9 ++ cz_8 cA a16 x20) ++ cz_5 cA a27 x31) ++ cz_5 cA a38 x42))) _ _ := hH
  refine lv_aload_n hx hb d11_init_48 rfl (lv_at hl 0 rfl) ?_
  refine cx_new C hH (ci := 9) (fs := [.int 0, .null, .null, .null, .null, .null, .null, .int 0, .int 0]) rfl fw_9 fo_9 mL_11_33 mN_9 mI_9 (by decide +kernel) (Nat.le_of_ble_eq_true rfl) (Nat.le_of_ble_eq_true rfl) d11_init_49 (fun a49 H hH => ?_)
  refine lv_dup hx hb d11_init_52 rfl ?_
  refine cx_callIN (rest := [.ref a49, .ref q]) C (ce_sok aK aV B0) hH (ci_9 l D cA aK aV B0 (pre ++ ((q, .inr (11, [.ref a5, .ref a16, .ref a27, .ref a38, .null, .null, .null, .null, .null, .null, .null, .null, .null])) :: (((cz_6 cA a5 x9 ++ cz_8 cA a16 x20) ++ cz_5 cA a27 x31) ++ cz_5 cA a38 x42))) a49) rfl mc9_init (ce_nwW C.2.2.2.2.2.2.2.2.2.1 3 rfl) mi9_init mI_9 (by decide) ⟨Nat.le_of_ble_eq_true rfl, Nat.le_of_ble_eq_true rfl⟩ ⟨Nat.le_of_ble_eq_true rfl, Nat.le_of_ble_eq_true rfl⟩ hl.1 (Nat.le_of_ble_eq_true rfl) d11_init_53 (fun x53 H locs px53 hH => ?_)
  rw [List.append_assoc] at hH
  have hH : cx_H D B0 s (pre ++ ((q, .inr (11, [.ref a5, .ref a16, .ref a27, .ref a38, .null, .null, .null, .null, .null, .null, .null, .null, .null])) :: ((((cz_6 cA a5 x9 ++ cz_8 cA a16 x20) ++ cz_5 cA a27 x31) ++ cz_5 cA a38 x42) ++ cz_9 cA a49 x53))) H locs := by rw [List.cons_append] at hH; exact hH
  refine cx_put C hH (i := 0) (ci := 11) (j := 4) (N := 13) (fy := fy_11) (v := .ref a49) rfl rfl fw_11 fo_11 fn_11 (by decide) fl_11_36 rfl rfl rfl (Nat.le_of_ble_eq_true rfl) d11_init_56 (fun H locs hH => ?_)
  have hH : cx_H D B0 s (pre ++ ((q, .inr (11, [.ref a5, .ref a16, .ref a27, .ref a38, .ref a49, .null, .null, .null, .null, .null, .null, .null, .null])) :: ((((cz_6 cA a5 x9 ++ cz_8 cA a16 x20) ++ cz_5 cA a27 x31) ++ cz_5 cA a38 x42) ++ cz_9 cA a49 x53))) _ _ := hH
  refine lv_aload_n hx hb d11_init_59 rfl (lv_at hl 0 rfl) ?_
  refine cx_new C hH (ci := 9) (fs := [.int 0, .null, .null, .null, .null, .null, .null, .int 0, .int 0]) rfl fw_9 fo_9 mL_11_33 mN_9 mI_9 (by decide +kernel) (Nat.le_of_ble_eq_true rfl) (Nat.le_of_ble_eq_true rfl) d11_init_60 (fun a60 H hH => ?_)
  refine lv_dup hx hb d11_init_63 rfl ?_
  refine cx_callIN (rest := [.ref a60, .ref q]) C (ce_sok aK aV B0) hH (ci_9 l D cA aK aV B0 (pre ++ ((q, .inr (11, [.ref a5, .ref a16, .ref a27, .ref a38, .ref a49, .null, .null, .null, .null, .null, .null, .null, .null])) :: ((((cz_6 cA a5 x9 ++ cz_8 cA a16 x20) ++ cz_5 cA a27 x31) ++ cz_5 cA a38 x42) ++ cz_9 cA a49 x53))) a60) rfl mc9_init (ce_nwW C.2.2.2.2.2.2.2.2.2.1 3 rfl) mi9_init mI_9 (by decide) ⟨Nat.le_of_ble_eq_true rfl, Nat.le_of_ble_eq_true rfl⟩ ⟨Nat.le_of_ble_eq_true rfl, Nat.le_of_ble_eq_true rfl⟩ hl.1 (Nat.le_of_ble_eq_true rfl) d11_init_64 (fun x64 H locs px64 hH => ?_)
  rw [List.append_assoc] at hH
  have hH : cx_H D B0 s (pre ++ ((q, .inr (11, [.ref a5, .ref a16, .ref a27, .ref a38, .ref a49, .null, .null, .null, .null, .null, .null, .null, .null])) :: (((((cz_6 cA a5 x9 ++ cz_8 cA a16 x20) ++ cz_5 cA a27 x31) ++ cz_5 cA a38 x42) ++ cz_9 cA a49 x53) ++ cz_9 cA a60 x64))) H locs := by rw [List.cons_append] at hH; exact hH
  refine cx_put C hH (i := 0) (ci := 11) (j := 5) (N := 13) (fy := fy_11) (v := .ref a60) rfl rfl fw_11 fo_11 fn_11 (by decide) fl_11_40 rfl rfl rfl (Nat.le_of_ble_eq_true rfl) d11_init_67 (fun H locs hH => ?_)
  have hH : cx_H D B0 s (pre ++ ((q, .inr (11, [.ref a5, .ref a16, .ref a27, .ref a38, .ref a49, .ref a60, .null, .null, .null, .null, .null, .null, .null])) :: (((((cz_6 cA a5 x9 ++ cz_8 cA a16 x20) ++ cz_5 cA a27 x31) ++ cz_5 cA a38 x42) ++ cz_9 cA a49 x53) ++ cz_9 cA a60 x64))) _ _ := hH
  refine lv_aload_n hx hb d11_init_70 rfl (lv_at hl 0 rfl) ?_
  refine cx_new C hH (ci := 0) (fs := [.int 0, .null, .null, .null, .null]) rfl fw_0 fo_0 mL_11_43 mN_0 mI_0 (by decide +kernel) (Nat.le_of_ble_eq_true rfl) (Nat.le_of_ble_eq_true rfl) d11_init_71 (fun a71 H hH => ?_)
  refine lv_dup hx hb d11_init_74 rfl ?_
  refine cx_callIN (rest := [.ref a71, .ref q]) C (ce_sok aK aV B0) hH (ci_0 l D cA aK aV B0 (pre ++ ((q, .inr (11, [.ref a5, .ref a16, .ref a27, .ref a38, .ref a49, .ref a60, .null, .null, .null, .null, .null, .null, .null])) :: (((((cz_6 cA a5 x9 ++ cz_8 cA a16 x20) ++ cz_5 cA a27 x31) ++ cz_5 cA a38 x42) ++ cz_9 cA a49 x53) ++ cz_9 cA a60 x64))) a71) rfl mc0_init (ce_nwW C.2.2.2.2.2.2.2.2.2.1 4 rfl) mi0_init mI_0 (by decide) ⟨Nat.le_of_ble_eq_true rfl, Nat.le_of_ble_eq_true rfl⟩ ⟨Nat.le_of_ble_eq_true rfl, Nat.le_of_ble_eq_true rfl⟩ hl.1 (Nat.le_of_ble_eq_true rfl) d11_init_75 (fun x75 H locs px75 hH => ?_)
  rw [List.append_assoc] at hH
  have hH : cx_H D B0 s (pre ++ ((q, .inr (11, [.ref a5, .ref a16, .ref a27, .ref a38, .ref a49, .ref a60, .null, .null, .null, .null, .null, .null, .null])) :: ((((((cz_6 cA a5 x9 ++ cz_8 cA a16 x20) ++ cz_5 cA a27 x31) ++ cz_5 cA a38 x42) ++ cz_9 cA a49 x53) ++ cz_9 cA a60 x64) ++ cz_0 cA a71 x75))) H locs := by rw [List.cons_append] at hH; exact hH
  refine cx_put C hH (i := 0) (ci := 11) (j := 6) (N := 13) (fy := fy_11) (v := .ref a71) rfl rfl fw_11 fo_11 fn_11 (by decide) fl_11_46 rfl rfl rfl (Nat.le_of_ble_eq_true rfl) d11_init_78 (fun H locs hH => ?_)
  have hH : cx_H D B0 s (pre ++ ((q, .inr (11, [.ref a5, .ref a16, .ref a27, .ref a38, .ref a49, .ref a60, .ref a71, .null, .null, .null, .null, .null, .null])) :: ((((((cz_6 cA a5 x9 ++ cz_8 cA a16 x20) ++ cz_5 cA a27 x31) ++ cz_5 cA a38 x42) ++ cz_9 cA a49 x53) ++ cz_9 cA a60 x64) ++ cz_0 cA a71 x75))) _ _ := hH
  refine lv_aload_n hx hb d11_init_81 rfl (lv_at hl 0 rfl) ?_
  refine cx_new C hH (ci := 10) (fs := [.int 0, .null, .null, .null]) rfl fw_10 fo_10 mL_11_50 mN_10 mI_10 (by decide +kernel) (Nat.le_of_ble_eq_true rfl) (Nat.le_of_ble_eq_true rfl) d11_init_82 (fun a82 H hH => ?_)
  refine lv_dup hx hb d11_init_85 rfl ?_
  refine cx_callIN (rest := [.ref a82, .ref q]) C (ce_sok aK aV B0) hH (ci_10 l D cA aK aV B0 (pre ++ ((q, .inr (11, [.ref a5, .ref a16, .ref a27, .ref a38, .ref a49, .ref a60, .ref a71, .null, .null, .null, .null, .null, .null])) :: ((((((cz_6 cA a5 x9 ++ cz_8 cA a16 x20) ++ cz_5 cA a27 x31) ++ cz_5 cA a38 x42) ++ cz_9 cA a49 x53) ++ cz_9 cA a60 x64) ++ cz_0 cA a71 x75))) a82) rfl mc10_init (ce_nwW C.2.2.2.2.2.2.2.2.2.1 5 rfl) mi10_init mI_10 (by decide) ⟨Nat.le_of_ble_eq_true rfl, Nat.le_of_ble_eq_true rfl⟩ ⟨Nat.le_of_ble_eq_true rfl, Nat.le_of_ble_eq_true rfl⟩ hl.1 (Nat.le_of_ble_eq_true rfl) d11_init_86 (fun x86 H locs px86 hH => ?_)
  rw [List.append_assoc] at hH
  have hH : cx_H D B0 s (pre ++ ((q, .inr (11, [.ref a5, .ref a16, .ref a27, .ref a38, .ref a49, .ref a60, .ref a71, .null, .null, .null, .null, .null, .null])) :: (((((((cz_6 cA a5 x9 ++ cz_8 cA a16 x20) ++ cz_5 cA a27 x31) ++ cz_5 cA a38 x42) ++ cz_9 cA a49 x53) ++ cz_9 cA a60 x64) ++ cz_0 cA a71 x75) ++ cz_10 cA a82 x86))) H locs := by rw [List.cons_append] at hH; exact hH
  refine cx_put C hH (i := 0) (ci := 11) (j := 7) (N := 13) (fy := fy_11) (v := .ref a82) rfl rfl fw_11 fo_11 fn_11 (by decide) fl_11_53 rfl rfl rfl (Nat.le_of_ble_eq_true rfl) d11_init_89 (fun H locs hH => ?_)
  have hH : cx_H D B0 s (pre ++ ((q, .inr (11, [.ref a5, .ref a16, .ref a27, .ref a38, .ref a49, .ref a60, .ref a71, .ref a82, .null, .null, .null, .null, .null])) :: (((((((cz_6 cA a5 x9 ++ cz_8 cA a16 x20) ++ cz_5 cA a27 x31) ++ cz_5 cA a38 x42) ++ cz_9 cA a49 x53) ++ cz_9 cA a60 x64) ++ cz_0 cA a71 x75) ++ cz_10 cA a82 x86))) _ _ := hH
  refine lv_aload_n hx hb d11_init_92 rfl (lv_at hl 0 rfl) ?_
  refine cx_new C hH (ci := 2) (fs := [.int 0, .int 0, .null, .null, .null]) rfl fw_2 fo_2 mL_11_57 mN_2 mI_2 (by decide +kernel) (Nat.le_of_ble_eq_true rfl) (Nat.le_of_ble_eq_true rfl) d11_init_93 (fun a93 H hH => ?_)
  refine lv_dup hx hb d11_init_96 rfl ?_
  refine cx_callIN (rest := [.ref a93, .ref q]) C (ce_sok aK aV B0) hH (ci_2 l D cA aK aV B0 (pre ++ ((q, .inr (11, [.ref a5, .ref a16, .ref a27, .ref a38, .ref a49, .ref a60, .ref a71, .ref a82, .null, .null, .null, .null, .null])) :: (((((((cz_6 cA a5 x9 ++ cz_8 cA a16 x20) ++ cz_5 cA a27 x31) ++ cz_5 cA a38 x42) ++ cz_9 cA a49 x53) ++ cz_9 cA a60 x64) ++ cz_0 cA a71 x75) ++ cz_10 cA a82 x86))) a93) rfl mc2_init (ce_nwW C.2.2.2.2.2.2.2.2.2.1 6 rfl) mi2_init mI_2 (by decide) ⟨Nat.le_of_ble_eq_true rfl, Nat.le_of_ble_eq_true rfl⟩ ⟨Nat.le_of_ble_eq_true rfl, Nat.le_of_ble_eq_true rfl⟩ hl.1 (Nat.le_of_ble_eq_true rfl) d11_init_97 (fun x97 H locs px97 hH => ?_)
  rw [List.append_assoc] at hH
  have hH : cx_H D B0 s (pre ++ ((q, .inr (11, [.ref a5, .ref a16, .ref a27, .ref a38, .ref a49, .ref a60, .ref a71, .ref a82, .null, .null, .null, .null, .null])) :: ((((((((cz_6 cA a5 x9 ++ cz_8 cA a16 x20) ++ cz_5 cA a27 x31) ++ cz_5 cA a38 x42) ++ cz_9 cA a49 x53) ++ cz_9 cA a60 x64) ++ cz_0 cA a71 x75) ++ cz_10 cA a82 x86) ++ cz_2 cA a93 x97))) H locs := by rw [List.cons_append] at hH; exact hH
  refine cx_put C hH (i := 0) (ci := 11) (j := 8) (N := 13) (fy := fy_11) (v := .ref a93) rfl rfl fw_11 fo_11 fn_11 (by decide) fl_11_60 rfl rfl rfl (Nat.le_of_ble_eq_true rfl) d11_init_100 (fun H locs hH => ?_)
  have hH : cx_H D B0 s (pre ++ ((q, .inr (11, [.ref a5, .ref a16, .ref a27, .ref a38, .ref a49, .ref a60, .ref a71, .ref a82, .ref a93, .null, .null, .null, .null])) :: ((((((((cz_6 cA a5 x9 ++ cz_8 cA a16 x20) ++ cz_5 cA a27 x31) ++ cz_5 cA a38 x42) ++ cz_9 cA a49 x53) ++ cz_9 cA a60 x64) ++ cz_0 cA a71 x75) ++ cz_10 cA a82 x86) ++ cz_2 cA a93 x97))) _ _ := hH
  refine lv_aload_n hx hb d11_init_103 rfl (lv_at hl 0 rfl) ?_
  refine cx_new C hH (ci := 3) (fs := [.null, .null, .null, .null, .null, .null]) rfl fw_3 fo_3 mL_11_64 mN_3 mI_3 (by decide +kernel) (Nat.le_of_ble_eq_true rfl) (Nat.le_of_ble_eq_true rfl) d11_init_104 (fun a104 H hH => ?_)
  refine lv_dup hx hb d11_init_107 rfl ?_
  refine cx_callIN (rest := [.ref a104, .ref q]) C (ce_sok aK aV B0) hH (ci_3 l D cA aK aV B0 (pre ++ ((q, .inr (11, [.ref a5, .ref a16, .ref a27, .ref a38, .ref a49, .ref a60, .ref a71, .ref a82, .ref a93, .null, .null, .null, .null])) :: ((((((((cz_6 cA a5 x9 ++ cz_8 cA a16 x20) ++ cz_5 cA a27 x31) ++ cz_5 cA a38 x42) ++ cz_9 cA a49 x53) ++ cz_9 cA a60 x64) ++ cz_0 cA a71 x75) ++ cz_10 cA a82 x86) ++ cz_2 cA a93 x97))) a104) rfl mc3_init (ce_nwW C.2.2.2.2.2.2.2.2.2.1 7 rfl) mi3_init mI_3 (by decide) ⟨Nat.le_of_ble_eq_true rfl, Nat.le_of_ble_eq_true rfl⟩ ⟨Nat.le_of_ble_eq_true rfl, Nat.le_of_ble_eq_true rfl⟩ hl.1 (Nat.le_of_ble_eq_true rfl) d11_init_108 (fun x108 H locs px108 hH => ?_)
  rw [List.append_assoc] at hH
  have hH : cx_H D B0 s (pre ++ ((q, .inr (11, [.ref a5, .ref a16, .ref a27, .ref a38, .ref a49, .ref a60, .ref a71, .ref a82, .ref a93, .null, .null, .null, .null])) :: (((((((((cz_6 cA a5 x9 ++ cz_8 cA a16 x20) ++ cz_5 cA a27 x31) ++ cz_5 cA a38 x42) ++ cz_9 cA a49 x53) ++ cz_9 cA a60 x64) ++ cz_0 cA a71 x75) ++ cz_10 cA a82 x86) ++ cz_2 cA a93 x97) ++ cz_3 cA a104 x108))) H locs := by rw [List.cons_append] at hH; exact hH
  refine cx_put C hH (i := 0) (ci := 11) (j := 9) (N := 13) (fy := fy_11) (v := .ref a104) rfl rfl fw_11 fo_11 fn_11 (by decide) fl_11_67 rfl rfl rfl (Nat.le_of_ble_eq_true rfl) d11_init_111 (fun H locs hH => ?_)
  have hH : cx_H D B0 s (pre ++ ((q, .inr (11, [.ref a5, .ref a16, .ref a27, .ref a38, .ref a49, .ref a60, .ref a71, .ref a82, .ref a93, .ref a104, .null, .null, .null])) :: (((((((((cz_6 cA a5 x9 ++ cz_8 cA a16 x20) ++ cz_5 cA a27 x31) ++ cz_5 cA a38 x42) ++ cz_9 cA a49 x53) ++ cz_9 cA a60 x64) ++ cz_0 cA a71 x75) ++ cz_10 cA a82 x86) ++ cz_2 cA a93 x97) ++ cz_3 cA a104 x108))) _ _ := hH
  refine lv_aload_n hx hb d11_init_114 rfl (lv_at hl 0 rfl) ?_
  refine cx_new C hH (ci := 3) (fs := [.null, .null, .null, .null, .null, .null]) rfl fw_3 fo_3 mL_11_64 mN_3 mI_3 (by decide +kernel) (Nat.le_of_ble_eq_true rfl) (Nat.le_of_ble_eq_true rfl) d11_init_115 (fun a115 H hH => ?_)
  refine lv_dup hx hb d11_init_118 rfl ?_
  refine cx_callIN (rest := [.ref a115, .ref q]) C (ce_sok aK aV B0) hH (ci_3 l D cA aK aV B0 (pre ++ ((q, .inr (11, [.ref a5, .ref a16, .ref a27, .ref a38, .ref a49, .ref a60, .ref a71, .ref a82, .ref a93, .ref a104, .null, .null, .null])) :: (((((((((cz_6 cA a5 x9 ++ cz_8 cA a16 x20) ++ cz_5 cA a27 x31) ++ cz_5 cA a38 x42) ++ cz_9 cA a49 x53) ++ cz_9 cA a60 x64) ++ cz_0 cA a71 x75) ++ cz_10 cA a82 x86) ++ cz_2 cA a93 x97) ++ cz_3 cA a104 x108))) a115) rfl mc3_init (ce_nwW C.2.2.2.2.2.2.2.2.2.1 7 rfl) mi3_init mI_3 (by decide) ⟨Nat.le_of_ble_eq_true rfl, Nat.le_of_ble_eq_true rfl⟩ ⟨Nat.le_of_ble_eq_true rfl, Nat.le_of_ble_eq_true rfl⟩ hl.1 (Nat.le_of_ble_eq_true rfl) d11_init_119 (fun x119 H locs px119 hH => ?_)
  rw [List.append_assoc] at hH
  have hH : cx_H D B0 s (pre ++ ((q, .inr (11, [.ref a5, .ref a16, .ref a27, .ref a38, .ref a49, .ref a60, .ref a71, .ref a82, .ref a93, .ref a104, .null, .null, .null])) :: ((((((((((cz_6 cA a5 x9 ++ cz_8 cA a16 x20) ++ cz_5 cA a27 x31) ++ cz_5 cA a38 x42) ++ cz_9 cA a49 x53) ++ cz_9 cA a60 x64) ++ cz_0 cA a71 x75) ++ cz_10 cA a82 x86) ++ cz_2 cA a93 x97) ++ cz_3 cA a104 x108) ++ cz_3 cA a115 x119))) H locs := by rw [List.cons_append] at hH; exact hH
  refine cx_put C hH (i := 0) (ci := 11) (j := 10) (N := 13) (fy := fy_11) (v := .ref a115) rfl rfl fw_11 fo_11 fn_11 (by decide) fl_11_71 rfl rfl rfl (Nat.le_of_ble_eq_true rfl) d11_init_122 (fun H locs hH => ?_)
  have hH : cx_H D B0 s (pre ++ ((q, .inr (11, [.ref a5, .ref a16, .ref a27, .ref a38, .ref a49, .ref a60, .ref a71, .ref a82, .ref a93, .ref a104, .ref a115, .null, .null])) :: ((((((((((cz_6 cA a5 x9 ++ cz_8 cA a16 x20) ++ cz_5 cA a27 x31) ++ cz_5 cA a38 x42) ++ cz_9 cA a49 x53) ++ cz_9 cA a60 x64) ++ cz_0 cA a71 x75) ++ cz_10 cA a82 x86) ++ cz_2 cA a93 x97) ++ cz_3 cA a104 x108) ++ cz_3 cA a115 x119))) _ _ := hH
  refine lv_aload_n hx hb d11_init_125 rfl (lv_at hl 0 rfl) ?_
  refine cx_new C hH (ci := 4) (fs := [.null, .null]) rfl fw_4 fo_4 mL_11_74 mN_4 mI_4 (by decide +kernel) (Nat.le_of_ble_eq_true rfl) (Nat.le_of_ble_eq_true rfl) d11_init_126 (fun a126 H hH => ?_)
  refine lv_dup hx hb d11_init_129 rfl ?_
  refine cx_callIN (rest := [.ref a126, .ref q]) C (ce_sok aK aV B0) hH (ci_4 l D cA aK aV B0 (pre ++ ((q, .inr (11, [.ref a5, .ref a16, .ref a27, .ref a38, .ref a49, .ref a60, .ref a71, .ref a82, .ref a93, .ref a104, .ref a115, .null, .null])) :: ((((((((((cz_6 cA a5 x9 ++ cz_8 cA a16 x20) ++ cz_5 cA a27 x31) ++ cz_5 cA a38 x42) ++ cz_9 cA a49 x53) ++ cz_9 cA a60 x64) ++ cz_0 cA a71 x75) ++ cz_10 cA a82 x86) ++ cz_2 cA a93 x97) ++ cz_3 cA a104 x108) ++ cz_3 cA a115 x119))) a126) rfl mc4_init (ce_nwW C.2.2.2.2.2.2.2.2.2.1 8 rfl) mi4_init mI_4 (by decide) ⟨Nat.le_of_ble_eq_true rfl, Nat.le_of_ble_eq_true rfl⟩ ⟨Nat.le_of_ble_eq_true rfl, Nat.le_of_ble_eq_true rfl⟩ hl.1 (Nat.le_of_ble_eq_true rfl) d11_init_130 (fun x130 H locs px130 hH => ?_)
  rw [List.append_assoc] at hH
  have hH : cx_H D B0 s (pre ++ ((q, .inr (11, [.ref a5, .ref a16, .ref a27, .ref a38, .ref a49, .ref a60, .ref a71, .ref a82, .ref a93, .ref a104, .ref a115, .null, .null])) :: (((((((((((cz_6 cA a5 x9 ++ cz_8 cA a16 x20) ++ cz_5 cA a27 x31) ++ cz_5 cA a38 x42) ++ cz_9 cA a49 x53) ++ cz_9 cA a60 x64) ++ cz_0 cA a71 x75) ++ cz_10 cA a82 x86) ++ cz_2 cA a93 x97) ++ cz_3 cA a104 x108) ++ cz_3 cA a115 x119) ++ cz_4 cA a126 x130))) H locs := by rw [List.cons_append] at hH; exact hH
  refine cx_put C hH (i := 0) (ci := 11) (j := 11) (N := 13) (fy := fy_11) (v := .ref a126) rfl rfl fw_11 fo_11 fn_11 (by decide) fl_11_77 rfl rfl rfl (Nat.le_of_ble_eq_true rfl) d11_init_133 (fun H locs hH => ?_)
  have hH : cx_H D B0 s (pre ++ ((q, .inr (11, [.ref a5, .ref a16, .ref a27, .ref a38, .ref a49, .ref a60, .ref a71, .ref a82, .ref a93, .ref a104, .ref a115, .ref a126, .null])) :: (((((((((((cz_6 cA a5 x9 ++ cz_8 cA a16 x20) ++ cz_5 cA a27 x31) ++ cz_5 cA a38 x42) ++ cz_9 cA a49 x53) ++ cz_9 cA a60 x64) ++ cz_0 cA a71 x75) ++ cz_10 cA a82 x86) ++ cz_2 cA a93 x97) ++ cz_3 cA a104 x108) ++ cz_3 cA a115 x119) ++ cz_4 cA a126 x130))) _ _ := hH
  refine lv_aload_n hx hb d11_init_136 rfl (lv_at hl 0 rfl) ?_
  refine cx_new C hH (ci := 1) (fs := [.int 0, .int 0, .null, .null]) rfl fw_1 fo_1 mL_11_81 mN_1 mI_1 (by decide +kernel) (Nat.le_of_ble_eq_true rfl) (Nat.le_of_ble_eq_true rfl) d11_init_137 (fun a137 H hH => ?_)
  refine lv_dup hx hb d11_init_140 rfl ?_
  refine cx_callIN (rest := [.ref a137, .ref q]) C (ce_sok aK aV B0) hH (ci_1 l D cA aK aV B0 (pre ++ ((q, .inr (11, [.ref a5, .ref a16, .ref a27, .ref a38, .ref a49, .ref a60, .ref a71, .ref a82, .ref a93, .ref a104, .ref a115, .ref a126, .null])) :: (((((((((((cz_6 cA a5 x9 ++ cz_8 cA a16 x20) ++ cz_5 cA a27 x31) ++ cz_5 cA a38 x42) ++ cz_9 cA a49 x53) ++ cz_9 cA a60 x64) ++ cz_0 cA a71 x75) ++ cz_10 cA a82 x86) ++ cz_2 cA a93 x97) ++ cz_3 cA a104 x108) ++ cz_3 cA a115 x119) ++ cz_4 cA a126 x130))) a137) rfl mc1_init (ce_nwW C.2.2.2.2.2.2.2.2.2.1 9 rfl) mi1_init mI_1 (by decide) ⟨Nat.le_of_ble_eq_true rfl, Nat.le_of_ble_eq_true rfl⟩ ⟨Nat.le_of_ble_eq_true rfl, Nat.le_of_ble_eq_true rfl⟩ hl.1 (Nat.le_of_ble_eq_true rfl) d11_init_141 (fun x141 H locs px141 hH => ?_)
  rw [List.append_assoc] at hH
  have hH : cx_H D B0 s (pre ++ ((q, .inr (11, [.ref a5, .ref a16, .ref a27, .ref a38, .ref a49, .ref a60, .ref a71, .ref a82, .ref a93, .ref a104, .ref a115, .ref a126, .null])) :: ((((((((((((cz_6 cA a5 x9 ++ cz_8 cA a16 x20) ++ cz_5 cA a27 x31) ++ cz_5 cA a38 x42) ++ cz_9 cA a49 x53) ++ cz_9 cA a60 x64) ++ cz_0 cA a71 x75) ++ cz_10 cA a82 x86) ++ cz_2 cA a93 x97) ++ cz_3 cA a104 x108) ++ cz_3 cA a115 x119) ++ cz_4 cA a126 x130) ++ cz_1 cA a137 x141))) H locs := by rw [List.cons_append] at hH; exact hH
  refine cx_put C hH (i := 0) (ci := 11) (j := 12) (N := 13) (fy := fy_11) (v := .ref a137) rfl rfl fw_11 fo_11 fn_11 (by decide) fl_11_84 rfl rfl rfl (Nat.le_of_ble_eq_true rfl) d11_init_144 (fun H locs hH => ?_)
  have hH : cx_H D B0 s (pre ++ ((q, .inr (11, [.ref a5, .ref a16, .ref a27, .ref a38, .ref a49, .ref a60, .ref a71, .ref a82, .ref a93, .ref a104, .ref a115, .ref a126, .ref a137])) :: ((((((((((((cz_6 cA a5 x9 ++ cz_8 cA a16 x20) ++ cz_5 cA a27 x31) ++ cz_5 cA a38 x42) ++ cz_9 cA a49 x53) ++ cz_9 cA a60 x64) ++ cz_0 cA a71 x75) ++ cz_10 cA a82 x86) ++ cz_2 cA a93 x97) ++ cz_3 cA a104 x108) ++ cz_3 cA a115 x119) ++ cz_4 cA a126 x130) ++ cz_1 cA a137 x141))) _ _ := hH
  exact cx_ret C (ce_sok aK aV B0) (a5, x9, a16, x20, a27, x31, a38, x42, a49, x53, a60, x64, a71, x75, a82, x86, a93, x97, a104, x108, a115, x119, a126, x130, a137, x141) ⟨px31, px42⟩ hH d11_init_147
