-- the String constants' length and charAt
abbrev bS_length : ByteArray := prog_16_method_54_code
def yS_length : MethodName := ⟨"java/lang/String", "length", "()I"⟩
abbrev bS_charAt : ByteArray := prog_16_method_56_code
def yS_charAt : MethodName := ⟨"java/lang/String", "charAt", "(I)C"⟩
def ce_slen (w : Nat) : Int32 := nI (ce_lens.getD w 0)
def ce_chr (w : Nat) (i : Int32) : Int32 := (ce_byt.getD w []).getD i.toNatClampNeg 0
section CE5
variable {p : Program} {l : Launch} {e : Env} {R : Room} {s : State} {m : MethodId} {args : Array Value} {below : List Frame} {meth : Method} {c : Code} {H : Heap} {locs : List Loc} {cells slots : Nat} {Q : State → Prop}
variable {cc : ByteArray} {pc nL : Nat} {ret : Option FieldType} {ls : Array Slot} {rest : List Value} {own : String} {D : va_G} {ad : Nat → Nat} {cA : Nat → ClassId} {B0 : Nat} {h : Hp} {aK aV : Nat → Nat}
/-- a call of a method of a String constant -/
theorem ce_callT (C : ce_Cx p s m args c meth cc nL ret own D ad cA B0 (ce_St aK aV B0)) (hH : ce_H D ad cA B0 [] s h H locs) {y : MethodName} {bytes : ByteArray} {maxL fr lo n idx w : Nat} {rt : Option FieldType} {As : List Value} {rv : Option Value} {st0 : List Value}
    (hM : ce_Ct l D ad cA B0 (ce_St aK aV B0) y bytes maxL rt fr lo 0 0 (.ref (aK w) :: As) h rv h) (hw : w < 9) (hyc : y.cls = "java/lang/String")
    (hcode : Cond.code y bytes maxL rt ∈ ce_cm) (hlink : Cond.methodLink own idx y ∈ ce_cm) (hinst : Cond.instanceMethod y ∈ ce_cm) (hsel : Cond.selects y.cls y y ∈ ce_cm) (hini : Cond.initialized y.cls ∈ ce_cm)
    (hd : y.cls ≠ "java/lang/invoke/MethodHandle" ∧ y.cls ≠ "java/lang/invoke/VarHandle" ∧ (parseMethodDescriptor y.desc).map (fun d => d.parameters.length) = some n) (hn : As.length = n) (hR : fr + 1 ≤ R.frames ∧ 8 + (maxL + 11) + lo ≤ R.locals) (hcs : cells + 0 ≤ R.cells ∧ slots + 0 ≤ R.slots)
    (hls : ls.size = nL) (hst : st0 = As.reverse ++ .ref (aK w) :: rest) (hW : (rest.map fun v => v.category).sum ≤ 8) (hdg : decode cc pc = .ok (.invokevirtual idx, 3))
    (kk : ∀ (H1 : Heap) (locs1 : List Loc), ce_H D ad cA B0 [] s h H1 locs1 → W p l e R s m args below meth c H1 locs1 (cells + 0) (slots + 0) Q (F0 m (pc + 3) ls (rv.toList ++ rest))) : W p l e R s m args below meth c H locs cells slots Q (F0 m pc ls st0) := by
  have hrec := vk_recv C.2.2.2.2.2.2.2.2.2.2.1 hw hH.2.2
  have hts := C.2.2.2.2.1
  refine ce_back C hH (va_runV (As := As) (rest := rest) (n := n) (C := y.cls) ⟨C.1, C.2.1, C.2.2.1, C.2.2.2.1, hts⟩ hM ⟨callB_of n hts (ce_good hcode) rfl rfl rfl (hts _ hini) (hts _ hlink) hd hR, hts _ hinst, hts _ hsel⟩ ⟨ce_blind (ce_sok aK aV B0), by rw [hyc]; exact hrec, ce_at (ce_sok aK aV B0) C hH⟩ rfl hn hls hst (lv_room hW) hdg hcs) kk
end CE5
theorem dS_len_0 : decode bS_length 0 = .ok (.aload_n 0, 1) := by decide +kernel
theorem dS_len_1 : decode bS_length 1 = .ok (.getfield 9, 3) := by decide +kernel
theorem dS_len_4 : decode bS_length 4 = .ok (.arraylength, 1) := by decide +kernel
theorem dS_len_5 : decode bS_length 5 = .ok (.aload_n 0, 1) := by decide +kernel
theorem dS_len_6 : decode bS_length 6 = .ok (.invokevirtual 335, 3) := by decide +kernel
theorem dS_len_9 : decode bS_length 9 = .ok (.ishr, 1) := by decide +kernel
theorem dS_len_10 : decode bS_length 10 = .ok (.ireturn, 1) := by decide +kernel
abbrev bS_cod : ByteArray := prog_16_method_152_code
def yS_cod : MethodName := ⟨"java/lang/String", "coder", "()B"⟩
theorem dS_cod_0 : decode bS_cod 0 = .ok (.getstatic 38, 3) := by decide +kernel
theorem dS_cod_3 : decode bS_cod 3 = .ok (.ifCond .eq 10, 3) := by decide +kernel
theorem dS_cod_6 : decode bS_cod 6 = .ok (.aload_n 0, 1) := by decide +kernel
theorem dS_cod_7 : decode bS_cod 7 = .ok (.getfield 15, 3) := by decide +kernel
theorem dS_cod_10 : decode bS_cod 10 = .ok (.goto 4, 3) := by decide +kernel
theorem dS_cod_13 : decode bS_cod 13 = .ok (.iconst 1, 1) := by decide +kernel
theorem dS_cod_14 : decode bS_cod 14 = .ok (.ireturn, 1) := by decide +kernel
theorem dS_chr_0 : decode bS_charAt 0 = .ok (.aload_n 0, 1) := by decide +kernel
theorem dS_chr_1 : decode bS_charAt 1 = .ok (.invokevirtual 492, 3) := by decide +kernel
theorem dS_chr_4 : decode bS_charAt 4 = .ok (.ifCond .eq 12, 3) := by decide +kernel
theorem dS_chr_7 : decode bS_charAt 7 = .ok (.aload_n 0, 1) := by decide +kernel
theorem dS_chr_8 : decode bS_charAt 8 = .ok (.getfield 9, 3) := by decide +kernel
theorem dS_chr_11 : decode bS_charAt 11 = .ok (.iload_n 1, 1) := by decide +kernel
theorem dS_chr_12 : decode bS_charAt 12 = .ok (.invokestatic 495, 3) := by decide +kernel
theorem dS_chr_15 : decode bS_charAt 15 = .ok (.ireturn, 1) := by decide +kernel
theorem dS_chr_16 : decode bS_charAt 16 = .ok (.aload_n 0, 1) := by decide +kernel
theorem dS_chr_17 : decode bS_charAt 17 = .ok (.getfield 9, 3) := by decide +kernel
theorem dS_chr_20 : decode bS_charAt 20 = .ok (.iload_n 1, 1) := by decide +kernel
theorem dS_chr_21 : decode bS_charAt 21 = .ok (.invokestatic 498, 3) := by decide +kernel
theorem dS_chr_24 : decode bS_charAt 24 = .ok (.ireturn, 1) := by decide +kernel
abbrev bS_lat : ByteArray := prog_16_method_154_code
def yS_lat : MethodName := ⟨"java/lang/String", "isLatin1", "()Z"⟩
theorem dS_lat_0 : decode bS_lat 0 = .ok (.getstatic 38, 3) := by decide +kernel
theorem dS_lat_3 : decode bS_lat 3 = .ok (.ifCond .eq 14, 3) := by decide +kernel
theorem dS_lat_6 : decode bS_lat 6 = .ok (.aload_n 0, 1) := by decide +kernel
theorem dS_lat_7 : decode bS_lat 7 = .ok (.getfield 15, 3) := by decide +kernel
theorem dS_lat_10 : decode bS_lat 10 = .ok (.ifCond .ne 7, 3) := by decide +kernel
theorem dS_lat_13 : decode bS_lat 13 = .ok (.iconst 1, 1) := by decide +kernel
theorem dS_lat_14 : decode bS_lat 14 = .ok (.goto 4, 3) := by decide +kernel
theorem dS_lat_17 : decode bS_lat 17 = .ok (.iconst 0, 1) := by decide +kernel
theorem dS_lat_18 : decode bS_lat 18 = .ok (.ireturn, 1) := by decide +kernel
abbrev bS_chk : ByteArray := prog_16_method_155_code
def yS_chk : MethodName := ⟨"java/lang/String", "checkIndex", "(II)V"⟩
theorem dS_chk_0 : decode bS_chk 0 = .ok (.iload_n 0, 1) := by decide +kernel
theorem dS_chk_1 : decode bS_chk 1 = .ok (.iload_n 1, 1) := by decide +kernel
theorem dS_chk_2 : decode bS_chk 2 = .ok (.getstatic 1053, 3) := by decide +kernel
theorem dS_chk_5 : decode bS_chk 5 = .ok (.invokestatic 1059, 3) := by decide +kernel
theorem dS_chk_8 : decode bS_chk 8 = .ok (.pop, 1) := by decide +kernel
theorem dS_chk_9 : decode bS_chk 9 = .ok (.return_, 1) := by decide +kernel
abbrev bS_l1c : ByteArray := prog_17_method_2_code
def yS_l1c : MethodName := ⟨"java/lang/StringLatin1", "charAt", "([BI)C"⟩
theorem dS_l1c_0 : decode bS_l1c 0 = .ok (.iload_n 1, 1) := by decide +kernel
theorem dS_l1c_1 : decode bS_l1c 1 = .ok (.aload_n 0, 1) := by decide +kernel
theorem dS_l1c_2 : decode bS_l1c 2 = .ok (.arraylength, 1) := by decide +kernel
theorem dS_l1c_3 : decode bS_l1c 3 = .ok (.invokestatic 9, 3) := by decide +kernel
theorem dS_l1c_6 : decode bS_l1c 6 = .ok (.aload_n 0, 1) := by decide +kernel
theorem dS_l1c_7 : decode bS_l1c 7 = .ok (.iload_n 1, 1) := by decide +kernel
theorem dS_l1c_8 : decode bS_l1c 8 = .ok (.baload, 1) := by decide +kernel
theorem dS_l1c_9 : decode bS_l1c 9 = .ok (.sipush 255, 3) := by decide +kernel
theorem dS_l1c_12 : decode bS_l1c 12 = .ok (.iand, 1) := by decide +kernel
theorem dS_l1c_13 : decode bS_l1c 13 = .ok (.i2c, 1) := by decide +kernel
theorem dS_l1c_14 : decode bS_l1c 14 = .ok (.ireturn, 1) := by decide +kernel
abbrev bS_pre : ByteArray := prog_20_method_11_code
def yS_pre : MethodName := ⟨"jdk/internal/util/Preconditions", "checkIndex", "(IILjava/util/function/BiFunction;)I"⟩
theorem dS_pre_0 : decode bS_pre 0 = .ok (.iload_n 0, 1) := by decide +kernel
theorem dS_pre_1 : decode bS_pre 1 = .ok (.ifCond .lt 8, 3) := by decide +kernel
theorem dS_pre_4 : decode bS_pre 4 = .ok (.iload_n 0, 1) := by decide +kernel
theorem dS_pre_5 : decode bS_pre 5 = .ok (.iload_n 1, 1) := by decide +kernel
theorem dS_pre_6 : decode bS_pre 6 = .ok (.if_icmp .lt 10, 3) := by decide +kernel
theorem dS_pre_9 : decode bS_pre 9 = .ok (.aload_n 2, 1) := by decide +kernel
theorem dS_pre_10 : decode bS_pre 10 = .ok (.iload_n 0, 1) := by decide +kernel
theorem dS_pre_11 : decode bS_pre 11 = .ok (.iload_n 1, 1) := by decide +kernel
theorem dS_pre_12 : decode bS_pre 12 = .ok (.invokestatic 95, 3) := by decide +kernel
theorem dS_pre_15 : decode bS_pre 15 = .ok (.athrow, 1) := by decide +kernel
theorem dS_pre_16 : decode bS_pre 16 = .ok (.iload_n 0, 1) := by decide +kernel
theorem dS_pre_17 : decode bS_pre 17 = .ok (.ireturn, 1) := by decide +kernel
theorem mSf_value : Cond.fieldLink "java/lang/String" 9 "java/lang/String" "value" "[B" ∈ ce_cm := ce_cm_of (List.mem_of_getElem? (i := 1668) (by decide +kernel)) (by decide +kernel)
theorem mSf_coder : Cond.fieldLink "java/lang/String" 15 "java/lang/String" "coder" "B" ∈ ce_cm := ce_cm_of (List.mem_of_getElem? (i := 1669) (by decide +kernel)) (by decide +kernel)
theorem mSf_comp : Cond.fieldLink "java/lang/String" 38 "java/lang/String" "COMPACT_STRINGS" "Z" ∈ ce_cm := ce_cm_of (List.mem_of_getElem? (i := 548) (by decide +kernel)) (by decide +kernel)
theorem mSf_sio : Cond.fieldLink "java/lang/String" 1053 "jdk/internal/util/Preconditions" "SIOOBE_FORMATTER" "Ljava/util/function/BiFunction;" ∈ ce_cm := ce_cm_of (List.mem_of_getElem? (i := 564) (by decide +kernel)) (by decide +kernel)
theorem mSl_335 : Cond.methodLink "java/lang/String" 335 yS_cod ∈ ce_cm := ce_cm_of (List.mem_of_getElem? (i := 544) (by decide +kernel)) (by decide +kernel)
theorem mSl_492 : Cond.methodLink "java/lang/String" 492 yS_lat ∈ ce_cm := ce_cm_of (List.mem_of_getElem? (i := 554) (by decide +kernel)) (by decide +kernel)
theorem mSl_495 : Cond.methodLink "java/lang/String" 495 yS_l1c ∈ ce_cm := ce_cm_of (List.mem_of_getElem? (i := 558) (by decide +kernel)) (by decide +kernel)
theorem mSl_1059 : Cond.methodLink "java/lang/String" 1059 yS_pre ∈ ce_cm := ce_cm_of (List.mem_of_getElem? (i := 566) (by decide +kernel)) (by decide +kernel)
theorem mSl_9 : Cond.methodLink "java/lang/StringLatin1" 9 yS_chk ∈ ce_cm := ce_cm_of (List.mem_of_getElem? (i := 561) (by decide +kernel)) (by decide +kernel)
theorem mSc_cod : Cond.code yS_cod bS_cod 1 (some .byte) ∈ ce_cm := ce_cm_of (List.mem_of_getElem? (i := 547) (by decide +kernel)) (by decide +kernel)
theorem mSi_cod : Cond.instanceMethod yS_cod ∈ ce_cm := ce_cm_of (List.mem_of_getElem? (i := 545) (by decide +kernel)) (by decide +kernel)
theorem mSs_cod : Cond.selects "java/lang/String" yS_cod yS_cod ∈ ce_cm := ce_cm_of (List.mem_of_getElem? (i := 546) (by decide +kernel)) (by decide +kernel)
theorem mSc_lat : Cond.code yS_lat bS_lat 1 (some .boolean) ∈ ce_cm := ce_cm_of (List.mem_of_getElem? (i := 557) (by decide +kernel)) (by decide +kernel)
theorem mSi_lat : Cond.instanceMethod yS_lat ∈ ce_cm := ce_cm_of (List.mem_of_getElem? (i := 555) (by decide +kernel)) (by decide +kernel)
theorem mSs_lat : Cond.selects "java/lang/String" yS_lat yS_lat ∈ ce_cm := ce_cm_of (List.mem_of_getElem? (i := 556) (by decide +kernel)) (by decide +kernel)
theorem mSc_chk : Cond.code yS_chk bS_chk 2 none ∈ ce_cm := ce_cm_of (List.mem_of_getElem? (i := 563) (by decide +kernel)) (by decide +kernel)
theorem mSt_chk : Cond.static yS_chk ∈ ce_cm := ce_cm_of (List.mem_of_getElem? (i := 562) (by decide +kernel)) (by decide +kernel)
theorem mSc_l1c : Cond.code yS_l1c bS_l1c 2 (some .char) ∈ ce_cm := ce_cm_of (List.mem_of_getElem? (i := 560) (by decide +kernel)) (by decide +kernel)
theorem mSt_l1c : Cond.static yS_l1c ∈ ce_cm := ce_cm_of (List.mem_of_getElem? (i := 559) (by decide +kernel)) (by decide +kernel)
theorem mSc_pre : Cond.code yS_pre bS_pre 3 (some .int) ∈ ce_cm := ce_cm_of (List.mem_of_getElem? (i := 568) (by decide +kernel)) (by decide +kernel)
theorem mSt_pre : Cond.static yS_pre ∈ ce_cm := ce_cm_of (List.mem_of_getElem? (i := 567) (by decide +kernel)) (by decide +kernel)
theorem mSI : Cond.initialized "java/lang/String" ∈ ce_cm := ce_cm_of (List.mem_of_getElem? (i := 104) (by decide +kernel)) (by decide +kernel)
theorem mSI1 : Cond.initialized "java/lang/StringLatin1" ∈ ce_cm := ce_cm_of (List.mem_of_getElem? (i := 105) (by decide +kernel)) (by decide +kernel)
theorem mSIp : Cond.initialized "jdk/internal/util/Preconditions" ∈ ce_cm := ce_cm_of (List.mem_of_getElem? (i := 106) (by decide +kernel)) (by decide +kernel)
theorem ce_nret {p : Program} {l : Launch} {e : Env} {R : Room} {s : State} {m : MethodId} {args : Array Value} {below : List Frame} {meth : Method} {c : Code} {H : Heap} {locs : List Loc} {cells slots : Nat} {cc : ByteArray} {pc nL : Nat} {ty : FieldType} {ls : Array Slot} {own : String} {D : va_G} {ad : Nat → Nat} {cA : Nat → ClassId} {B0 : Nat} {h : Hp} {St : State → Prop} (C : ce_Cx p s m args c meth cc nL (some ty) own D ad cA B0 St) (hok : ce_Sok B0 St) (hH : ce_H D ad cA B0 [] s h H locs) {v : Int32} (hv : narrow ty (.int v) = .int v) (hdg : decode cc pc = .ok (.ireturn, 1)) :
    W p l e R s m args below meth c H locs cells slots (MQ below (ce_Q D ad cA B0 St (some (.int v)) h) args s cells slots (fun q => B0 ≤ q)) (F0 m pc ls [.int v]) :=
  W.zret C.1 C.2.1 C.2.2.2.2.2.2.2.2.1 hv (ce_fin C hok hH) hH.2.2.2.2 hdg C.2.2.2.2.2.2.2.2.2.1
theorem cS_cod (l : Launch) (D : va_G) (ad : Nat → Nat) (cA : Nat → ClassId) (aK aV : Nat → Nat) (B0 : Nat) (hA : ce_Ad ad B0) (w : Nat) (hw : w < 9) (h : Hp) : ce_Ct l D ad cA B0 (ce_St aK aV B0) yS_cod bS_cod 1 (some .byte) 0 0 0 0 [.ref (aK w)] h (some (.int 0)) h := by
  refine ce_enter hA (by decide) rfl (Nat.le_of_ble_eq_true rfl) (fun p e0 s m below meth c ls C hH hl => ?_)
  have hl : lv_has ls 1 [(0, .ref (aK w))] := hl
  have hx := C.1
  have hb := C.2.1
  have hts := C.2.2.2.2.1
  have hSt := C.2.2.2.2.2.2.2.2.2.2
  refine va_gets (v := .int 1) hx hb hSt.2.2.2.1 hH.2.2 C.2.2.2.1 (hts _ mSf_comp) (fun _ z => z) dS_cod_0 ?_
  refine lv_if_eq (tgt := 13) hx hb dS_cod_3 (by decide) (fun hc => absurd hc (by decide)) (fun hc => ?_)
  refine lv_aload_n hx hb dS_cod_6 rfl (lv_at hl 0 rfl) ?_
  refine vk_getf (v := .int 0) hx hb (hSt.1.1 w hw).2.1 hH.2.2 C.2.2.2.1 (hts _ mSf_coder) (fun _ z => z) dS_cod_7 ?_
  refine lv_goto (tgt := 14) hx hb dS_cod_10 (by decide) ?_
  exact ce_nret C (ce_sok aK aV B0) hH rfl dS_cod_14
theorem cS_lat (l : Launch) (D : va_G) (ad : Nat → Nat) (cA : Nat → ClassId) (aK aV : Nat → Nat) (B0 : Nat) (hA : ce_Ad ad B0) (w : Nat) (hw : w < 9) (h : Hp) : ce_Ct l D ad cA B0 (ce_St aK aV B0) yS_lat bS_lat 1 (some .boolean) 0 0 0 0 [.ref (aK w)] h (some (.int 1)) h := by
  refine ce_enter hA (by decide) rfl (Nat.le_of_ble_eq_true rfl) (fun p e0 s m below meth c ls C hH hl => ?_)
  have hl : lv_has ls 1 [(0, .ref (aK w))] := hl
  have hx := C.1
  have hb := C.2.1
  have hts := C.2.2.2.2.1
  have hSt := C.2.2.2.2.2.2.2.2.2.2
  refine va_gets (v := .int 1) hx hb hSt.2.2.2.1 hH.2.2 C.2.2.2.1 (hts _ mSf_comp) (fun _ z => z) dS_lat_0 ?_
  refine lv_if_eq (tgt := 17) hx hb dS_lat_3 (by decide) (fun hc => absurd hc (by decide)) (fun hc => ?_)
  refine lv_aload_n hx hb dS_lat_6 rfl (lv_at hl 0 rfl) ?_
  refine vk_getf (v := .int 0) hx hb (hSt.1.1 w hw).2.1 hH.2.2 C.2.2.2.1 (hts _ mSf_coder) (fun _ z => z) dS_lat_7 ?_
  refine lv_if_ne (tgt := 17) hx hb dS_lat_10 (by decide) (fun hc => absurd rfl hc) (fun hc => ?_)
  refine lv_iconst (v := 1) hx hb dS_lat_13 (by decide) ?_
  refine lv_goto (tgt := 18) hx hb dS_lat_14 (by decide) ?_
  exact ce_nret C (ce_sok aK aV B0) hH rfl dS_lat_18
theorem cS_length (l : Launch) (D : va_G) (ad : Nat → Nat) (cA : Nat → ClassId) (aK aV : Nat → Nat) (B0 : Nat) (hA : ce_Ad ad B0) (w : Nat) (hw : w < 9) (h : Hp) : ce_Ct l D ad cA B0 (ce_St aK aV B0) yS_length bS_length 1 (some .int) 8 200 0 0 [.ref (aK w)] h (some (.int (ce_slen w))) h := by
  refine ce_enter hA (by decide) rfl (Nat.le_of_ble_eq_true rfl) (fun p e0 s m below meth c ls C hH hl => ?_)
  have hl : lv_has ls 1 [(0, .ref (aK w))] := hl
  have hx := C.1
  have hb := C.2.1
  have hts := C.2.2.2.2.1
  have hSt := C.2.2.2.2.2.2.2.2.2.2
  refine lv_aload_n hx hb dS_len_0 rfl (lv_at hl 0 rfl) ?_
  refine vk_getf (v := .ref (aV w)) hx hb (hSt.1.1 w hw).2.2.1 hH.2.2 C.2.2.2.1 (hts _ mSf_value) (fun _ z => z) dS_len_1 ?_
  refine va_tlen (v := ce_slen w) hx hb (hSt.1.1 w hw).2.2.2 hH.2.2 rfl dS_len_4 ?_
  refine lv_aload_n hx hb dS_len_5 rfl (lv_at hl 0 rfl) ?_
  refine ce_callT (As := []) (rest := [.int (ce_slen w)]) C hH (cS_cod l D ad cA aK aV B0 hA w hw h) hw rfl mSc_cod mSl_335 mSi_cod mSs_cod mSI (n := 0) (by decide) rfl ⟨Nat.le_of_ble_eq_true rfl, Nat.le_of_ble_eq_true rfl⟩ ⟨Nat.le_of_ble_eq_true rfl, Nat.le_of_ble_eq_true rfl⟩ hl.1 rfl (Nat.le_of_ble_eq_true rfl) dS_len_6 (fun H locs hH => ?_)
  refine W.eq (g2 := F0 m 9 ls [.int 0, .int (ce_slen w)]) rfl ?_
  refine lv_ishr hx hb dS_len_9 ?_
  exact ce_iret C (ce_sok aK aV B0) hH (by rw [show ∀ x : Int32, x >>> ((0 : Int32) &&& 31) = x from fun x => by simp]) rfl dS_len_10
theorem cS_pren (l : Launch) (D : va_G) (ad : Nat → Nat) (cA : Nat → ClassId) (aK aV : Nat → Nat) (B0 : Nat) (hA : ce_Ad ad B0) (i n : Int32) (h1 : ¬ i < 0) (h2 : i < n) (h : Hp) : ce_Ct l D ad cA B0 (ce_St aK aV B0) yS_pre bS_pre 3 (some .int) 0 0 0 0 [.int i, .int n, .null] h (some (.int i)) h := by
  refine ce_enter hA (by decide) rfl (Nat.le_of_ble_eq_true rfl) (fun p e0 s m below meth c ls C hH hl => ?_)
  have hl : lv_has ls 3 [(0, .int i), (1, .int n), (2, .null)] := hl
  have hx := C.1
  have hb := C.2.1
  have hts := C.2.2.2.2.1
  have hSt := C.2.2.2.2.2.2.2.2.2.2
  refine lv_iload_n hx hb dS_pre_0 rfl (lv_at hl 0 rfl) ?_
  refine lv_if_lt (tgt := 9) hx hb dS_pre_1 (by decide) (fun hc => absurd hc h1) (fun hc => ?_)
  refine lv_iload_n hx hb dS_pre_4 rfl (lv_at hl 0 rfl) ?_
  refine lv_iload_n hx hb dS_pre_5 rfl (lv_at hl 1 rfl) ?_
  refine lv_icmp_lt (tgt := 16) hx hb dS_pre_6 (by decide) (fun hc => ?_) (fun hc => absurd h2 hc)
  refine lv_iload_n hx hb dS_pre_16 rfl (lv_at hl 0 rfl) ?_
  exact ce_iret C (ce_sok aK aV B0) hH rfl rfl dS_pre_17
theorem cS_prer (l : Launch) (D : va_G) (ad : Nat → Nat) (cA : Nat → ClassId) (aK aV : Nat → Nat) (B0 : Nat) (hA : ce_Ad ad B0) (t : Nat) (i n : Int32) (h1 : ¬ i < 0) (h2 : i < n) (h : Hp) : ce_Ct l D ad cA B0 (ce_St aK aV B0) yS_pre bS_pre 3 (some .int) 0 0 0 0 [.int i, .int n, .ref t] h (some (.int i)) h := by
  refine ce_enter hA (by decide) rfl (Nat.le_of_ble_eq_true rfl) (fun p e0 s m below meth c ls C hH hl => ?_)
  have hl : lv_has ls 3 [(0, .int i), (1, .int n), (2, .ref t)] := hl
  have hx := C.1
  have hb := C.2.1
  have hts := C.2.2.2.2.1
  have hSt := C.2.2.2.2.2.2.2.2.2.2
  refine lv_iload_n hx hb dS_pre_0 rfl (lv_at hl 0 rfl) ?_
  refine lv_if_lt (tgt := 9) hx hb dS_pre_1 (by decide) (fun hc => absurd hc h1) (fun hc => ?_)
  refine lv_iload_n hx hb dS_pre_4 rfl (lv_at hl 0 rfl) ?_
  refine lv_iload_n hx hb dS_pre_5 rfl (lv_at hl 1 rfl) ?_
  refine lv_icmp_lt (tgt := 16) hx hb dS_pre_6 (by decide) (fun hc => ?_) (fun hc => absurd h2 hc)
  refine lv_iload_n hx hb dS_pre_16 rfl (lv_at hl 0 rfl) ?_
  exact ce_iret C (ce_sok aK aV B0) hH rfl rfl dS_pre_17
theorem cS_chk (l : Launch) (D : va_G) (ad : Nat → Nat) (cA : Nat → ClassId) (aK aV : Nat → Nat) (B0 : Nat) (hA : ce_Ad ad B0) (i n : Int32) (h1 : ¬ i < 0) (h2 : i < n) (h : Hp) : ce_Ct l D ad cA B0 (ce_St aK aV B0) yS_chk bS_chk 2 none 1 40 0 0 [.int i, .int n] h none h := by
  refine ce_enter hA (by decide) rfl (Nat.le_of_ble_eq_true rfl) (fun p e0 s m below meth c ls C hH hl => ?_)
  have hl : lv_has ls 2 [(0, .int i), (1, .int n)] := hl
  have hx := C.1
  have hb := C.2.1
  have hts := C.2.2.2.2.1
  have hSt := C.2.2.2.2.2.2.2.2.2.2
  refine lv_iload_n hx hb dS_chk_0 rfl (lv_at hl 0 rfl) ?_
  refine lv_iload_n hx hb dS_chk_1 rfl (lv_at hl 1 rfl) ?_
  rcases hSt.2.2.2.2 with hz | ⟨t, hz⟩
  · refine va_gets (v := .null) hx hb hz hH.2.2 C.2.2.2.1 (hts _ mSf_sio) (fun _ z => z) dS_chk_2 ?_
    refine ce_callS (As := [.int i, .int n, .null]) (rest := []) C (ce_sok aK aV B0) hH (cS_pren l D ad cA aK aV B0 hA i n h1 h2 h) mSc_pre mSl_1059 mSt_pre mSIp (n := 3) (by decide) rfl ⟨Nat.le_of_ble_eq_true rfl, Nat.le_of_ble_eq_true rfl⟩ ⟨Nat.le_of_ble_eq_true rfl, Nat.le_of_ble_eq_true rfl⟩ hl.1 rfl (Nat.le_of_ble_eq_true rfl) dS_chk_5 (fun H locs hH => ?_)
    refine W.eq (g2 := F0 m 8 ls [.int i]) rfl ?_
    refine lv_pop hx hb dS_chk_8 rfl ?_
    exact ce_vret C (ce_sok aK aV B0) hH rfl dS_chk_9
  · refine va_gets (v := .ref t) hx hb hz hH.2.2 C.2.2.2.1 (hts _ mSf_sio) (fun _ z => z) dS_chk_2 ?_
    refine ce_callS (As := [.int i, .int n, .ref t]) (rest := []) C (ce_sok aK aV B0) hH (cS_prer l D ad cA aK aV B0 hA t i n h1 h2 h) mSc_pre mSl_1059 mSt_pre mSIp (n := 3) (by decide) rfl ⟨Nat.le_of_ble_eq_true rfl, Nat.le_of_ble_eq_true rfl⟩ ⟨Nat.le_of_ble_eq_true rfl, Nat.le_of_ble_eq_true rfl⟩ hl.1 rfl (Nat.le_of_ble_eq_true rfl) dS_chk_5 (fun H locs hH => ?_)
    refine W.eq (g2 := F0 m 8 ls [.int i]) rfl ?_
    refine lv_pop hx hb dS_chk_8 rfl ?_
    exact ce_vret C (ce_sok aK aV B0) hH rfl dS_chk_9
theorem ce_chr_ok : ∀ w, w < 9 → ∀ j, j < ce_lens.getD w 0 → ((((ce_byt.getD w []).getD j 0 &&& 255).toUInt32 % 65536).toInt32 = (ce_byt.getD w []).getD j 0) ∧ narrow .char (.int ((ce_byt.getD w []).getD j 0)) = .int ((ce_byt.getD w []).getD j 0) := by decide +kernel
theorem ce_lens_lt : ∀ w, w < 9 → ce_lens.getD w 0 < 2147483648 := by decide +kernel
theorem ce_in_lt {i : Int32} {n : Nat} (hn : n < 2147483648) (h : ce_in i n = true) : (¬ i < 0) ∧ i < nI n ∧ i.toNatClampNeg < n := by
  have h1 := ce_in_vp h
  simp only [ce_in, Bool.and_eq_true, decide_eq_true_eq] at h
  obtain ⟨j, hj, rfl⟩ := vp_in_of h1 hn
  exact ⟨nI_pos (by omega), nI_lt hj hn, h.2⟩
theorem cS_l1c (l : Launch) (D : va_G) (ad : Nat → Nat) (cA : Nat → ClassId) (aK aV : Nat → Nat) (B0 : Nat) (hA : ce_Ad ad B0) (w : Nat) (hw : w < 9) (i : Int32) (hi : ce_in i (ce_lens.getD w 0) = true) (h : Hp) : ce_Ct l D ad cA B0 (ce_St aK aV B0) yS_l1c bS_l1c 2 (some .char) 2 80 0 0 [.ref (aV w), .int i] h (some (.int (ce_chr w i))) h := by
  refine ce_enter hA (by decide) rfl (Nat.le_of_ble_eq_true rfl) (fun p e0 s m below meth c ls C hH hl => ?_)
  have hl : lv_has ls 2 [(0, .ref (aV w)), (1, .int i)] := hl
  have hx := C.1
  have hb := C.2.1
  have hts := C.2.2.2.2.1
  have hSt := C.2.2.2.2.2.2.2.2.2.2
  obtain ⟨h1, h2, h3⟩ := ce_in_lt (ce_lens_lt w hw) hi
  obtain ⟨h4, h5⟩ := ce_chr_ok w hw _ h3
  refine lv_iload_n hx hb dS_l1c_0 rfl (lv_at hl 1 rfl) ?_
  refine lv_aload_n hx hb dS_l1c_1 rfl (lv_at hl 0 rfl) ?_
  refine va_tlen (v := ce_slen w) hx hb (hSt.1.1 w hw).2.2.2 hH.2.2 rfl dS_l1c_2 ?_
  refine ce_callS (As := [.int i, .int (ce_slen w)]) (rest := []) C (ce_sok aK aV B0) hH (cS_chk l D ad cA aK aV B0 hA i (ce_slen w) h1 h2 h) mSc_chk mSl_9 mSt_chk mSI (n := 2) (by decide) rfl ⟨Nat.le_of_ble_eq_true rfl, Nat.le_of_ble_eq_true rfl⟩ ⟨Nat.le_of_ble_eq_true rfl, Nat.le_of_ble_eq_true rfl⟩ hl.1 rfl (Nat.le_of_ble_eq_true rfl) dS_l1c_3 (fun H locs hH => ?_)
  refine W.eq (g2 := F0 m 6 ls []) rfl ?_
  refine lv_aload_n hx hb dS_l1c_6 rfl (lv_at hl 0 rfl) ?_
  refine lv_iload_n hx hb dS_l1c_7 rfl (lv_at hl 1 rfl) ?_
  refine va_tb (v := .int (ce_chr w i)) hx hb (hSt.1.1 w hw).2.2.2 hH.2.2 (ce_in_vp hi) rfl dS_l1c_8 ?_
  refine lv_sipush (v := 255) hx hb dS_l1c_9 (by decide) ?_
  refine lv_iand hx hb dS_l1c_12 ?_
  refine lv_i2c (v := ce_chr w i) hx hb dS_l1c_13 h4 ?_
  exact ce_nret C (ce_sok aK aV B0) hH h5 dS_l1c_14
theorem cS_charAt (l : Launch) (D : va_G) (ad : Nat → Nat) (cA : Nat → ClassId) (aK aV : Nat → Nat) (B0 : Nat) (hA : ce_Ad ad B0) (w : Nat) (hw : w < 9) (i : Int32) (hi : ce_in i (ce_lens.getD w 0) = true) (h : Hp) : ce_Ct l D ad cA B0 (ce_St aK aV B0) yS_charAt bS_charAt 2 (some .char) 8 200 0 0 [.ref (aK w), .int i] h (some (.int (ce_chr w i))) h := by
  refine ce_enter hA (by decide) rfl (Nat.le_of_ble_eq_true rfl) (fun p e0 s m below meth c ls C hH hl => ?_)
  have hl : lv_has ls 2 [(0, .ref (aK w)), (1, .int i)] := hl
  have hx := C.1
  have hb := C.2.1
  have hts := C.2.2.2.2.1
  have hSt := C.2.2.2.2.2.2.2.2.2.2
  obtain ⟨h1, h2, h3⟩ := ce_in_lt (ce_lens_lt w hw) hi
  obtain ⟨h4, h5⟩ := ce_chr_ok w hw _ h3
  refine lv_aload_n hx hb dS_chr_0 rfl (lv_at hl 0 rfl) ?_
  refine ce_callT (As := []) (rest := []) C hH (cS_lat l D ad cA aK aV B0 hA w hw h) hw rfl mSc_lat mSl_492 mSi_lat mSs_lat mSI (n := 0) (by decide) rfl ⟨Nat.le_of_ble_eq_true rfl, Nat.le_of_ble_eq_true rfl⟩ ⟨Nat.le_of_ble_eq_true rfl, Nat.le_of_ble_eq_true rfl⟩ hl.1 rfl (Nat.le_of_ble_eq_true rfl) dS_chr_1 (fun H locs hH => ?_)
  refine W.eq (g2 := F0 m 4 ls [.int 1]) rfl ?_
  refine lv_if_eq (tgt := 16) hx hb dS_chr_4 (by decide) (fun hc => absurd hc (by decide)) (fun hc => ?_)
  refine lv_aload_n hx hb dS_chr_7 rfl (lv_at hl 0 rfl) ?_
  refine vk_getf (v := .ref (aV w)) hx hb (hSt.1.1 w hw).2.2.1 hH.2.2 C.2.2.2.1 (hts _ mSf_value) (fun _ z => z) dS_chr_8 ?_
  refine lv_iload_n hx hb dS_chr_11 rfl (lv_at hl 1 rfl) ?_
  refine ce_callS (As := [.ref (aV w), .int i]) (rest := []) C (ce_sok aK aV B0) hH (cS_l1c l D ad cA aK aV B0 hA w hw i hi h) mSc_l1c mSl_495 mSt_l1c mSI1 (n := 2) (by decide) rfl ⟨Nat.le_of_ble_eq_true rfl, Nat.le_of_ble_eq_true rfl⟩ ⟨Nat.le_of_ble_eq_true rfl, Nat.le_of_ble_eq_true rfl⟩ hl.1 rfl (Nat.le_of_ble_eq_true rfl) dS_chr_12 (fun H locs hH => ?_)
  refine W.eq (g2 := F0 m 15 ls [.int (ce_chr w i)]) rfl ?_
  exact ce_nret C (ce_sok aK aV B0) hH h5 dS_chr_15
