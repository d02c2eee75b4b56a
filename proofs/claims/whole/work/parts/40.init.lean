-- the constructors, written by wip/whole/gen/gen40.py out of the bytecode
/-- Arrays.fill over any world -/
theorem cx_fill (l : Launch) (D : va_G) (cA : Nat → ClassId) (aK aV : Nat → Nat) (B0 : Nat) (pre L : va_W) (i a n : Nat) (f : Nat → Int32) (v : Int32) (he : L[i]? = some (a, .inl (cA 0, n, .inl f))) (hn : n < 2147483648) : cx_Ct l D cA B0 (ce_St aK aV B0) y7_fill_53178 b7_fill_53178 4 0 0 0 0 [.ref a, .int v] (pre ++ L) (fun (g : Nat → Int32) => ∀ j, j < n → g j = v) (fun g => pre ++ L.set i (a, .inl (cA 0, n, .inl g))) := by
  refine Met.ofW (cc := b7_fill_53178) (maxL := 4) (ret := none) (by decide) rfl ?_
  intro p e0 s m args below meth c s₁ B hml hv
  obtain ⟨rfl, hP, hD, hK, hB, hSt⟩ := hv
  have hl := lv_entry [Value.ref a, .int v] (n := 4) (Nat.le_of_ble_eq_true rfl)
  rw [lg_entry_eq]
  generalize (lg_sl [Value.ref a, .int v] ++ List.replicate (4 - (lg_sl [Value.ref a, .int v]).length) Slot.unset).toArray = ls at hl ⊢
  have hl : lv_has ls 4 [(0, .ref a), (1, .int v)] := hl
  have hx := B.exec
  have hb := B.bytes
  have hr := B.returns
  have hlk := B.notSynchronized
  have he2 : (pre ++ L)[pre.length + i]? = some (a, .inl (cA 0, n, .inl f)) := cx_at he
  refine lv_iconst (v := 0) hx hb d7_fill_53178_0 (by decide) ?_
  refine lv_istore_n (lv' := [(2, .int 0), (0, .ref a), (1, .int v)]) hx hb d7_fill_53178_1 rfl hl (by decide) rfl (fun ls hl => ?_)
  refine lv_aload_n hx hb d7_fill_53178_2 rfl (lv_at hl 1 rfl) ?_
  refine va_alen (v := nI n) (D := D) hx hb hK hP (pre.length + i) 0 he2 (ty := .int) rfl rfl d7_fill_53178_3 ?_
  refine lv_istore_n (lv' := [(3, .int (nI n)), (2, .int 0), (0, .ref a), (1, .int v)]) hx hb d7_fill_53178_4 rfl hl (by decide) rfl (fun ls hl => ?_)
  have loop : ∀ (k j : Nat), j ≤ n → n ≤ j + k → ∀ (g : Nat → Int32) (H : Heap) (locs : List Loc) (ls : Array Slot), (∀ x, x < j → g x = v) → va_P D ce_cl (pre ++ L.set i (a, .inl (cA 0, n, .inl g))) H → va_D (fun q => B0 ≤ q) (pre ++ L.set i (a, .inl (cA 0, n, .inl g))) → va_S (fun q => B0 ≤ q) s.heap H locs → lv_has ls 4 [(2, .int (nI j)), (3, .int (nI n)), (0, .ref a), (1, .int v)] →
      W p l e0 { frames := 0, cells := 0, slots := 0, locals := 0 } s m [Value.ref a, .int v].toArray below meth c H locs 0 0 (MQ below (cx_Q D cA B0 (ce_St aK aV B0) (fun (g : Nat → Int32) => ∀ j, j < n → g j = v) (fun g => pre ++ L.set i (a, .inl (cA 0, n, .inl g)))) [Value.ref a, .int v].toArray s 0 0 (fun q => B0 ≤ q)) (F0 m 5 ls []) := by
    have hil : i < L.length := (List.getElem?_eq_some_iff.mp he).1
    intro k
    induction k with
    | zero =>
      intro j h1 h2 g H locs ls hg hP hD hS hl
      have : j = n := by omega
      subst this
      refine lv_iload_n hx hb d7_fill_53178_5 rfl (lv_at hl 0 rfl) ?_
      refine lv_iload_n hx hb d7_fill_53178_6 rfl (lv_at hl 1 rfl) ?_
      refine lv_icmp_ge (tgt := 20) hx hb d7_fill_53178_7 (by decide) (fun hc => ?_) (fun hc => absurd (Int32.le_refl _) hc)
      exact W.vret (Qc := cx_Q D cA B0 (ce_St aK aV B0) (fun (g : Nat → Int32) => ∀ x, x < j → g x = v) (fun g => pre ++ L.set i (a, .inl (cA 0, j, .inl g)))) hx hb hr (fun t ht hW => ⟨⟨rfl, g, hg, by rw [ht]; exact hP, hD, va_K.moved hW.alike hK, by rw [ht]; exact Nat.le_trans hB hS.1, (ce_sok aK aV B0).1 s t hW hSt (fun q q1 q2 => by rw [ht]; exact hS.2.1 q q1 q2)⟩, hS.F ht⟩) hS.2.2 d7_fill_53178_20 hlk
    | succ k ih =>
      intro j h1 h2 g H locs ls hg hP hD hS hl
      refine lv_iload_n hx hb d7_fill_53178_5 rfl (lv_at hl 0 rfl) ?_
      refine lv_iload_n hx hb d7_fill_53178_6 rfl (lv_at hl 1 rfl) ?_
      refine lv_icmp_ge (tgt := 20) hx hb d7_fill_53178_7 (by decide) (fun hc => ?_) (fun hc => ?_)
      · have : j = n := by
          have := (nI_leI hn (Nat.lt_of_le_of_lt h1 hn)).mp hc
          omega
        subst this
        exact W.vret (Qc := cx_Q D cA B0 (ce_St aK aV B0) (fun (g : Nat → Int32) => ∀ x, x < j → g x = v) (fun g => pre ++ L.set i (a, .inl (cA 0, j, .inl g)))) hx hb hr (fun t ht hW => ⟨⟨rfl, g, hg, by rw [ht]; exact hP, hD, va_K.moved hW.alike hK, by rw [ht]; exact Nat.le_trans hB hS.1, (ce_sok aK aV B0).1 s t hW hSt (fun q q1 q2 => by rw [ht]; exact hS.2.1 q q1 q2)⟩, hS.F ht⟩) hS.2.2 d7_fill_53178_20 hlk
      · have hj : j < n := by
          rcases Nat.lt_or_ge j n with z | z
          · exact z
          · exact absurd (nI_le z (Nat.lt_of_le_of_lt h1 hn)) hc
        refine lv_aload_n hx hb d7_fill_53178_10 rfl (lv_at hl 2 rfl) ?_
        refine lv_iload_n hx hb d7_fill_53178_11 rfl (lv_at hl 0 rfl) ?_
        refine lv_iload_n hx hb d7_fill_53178_12 rfl (lv_at hl 3 rfl) ?_
        refine va_iast (D := D) hx hb hK hP hD hS (pre.length + i) 0 (cx_at (by rw [List.getElem?_set_self hil])) rfl (vp_in_nI hj hn) d7_fill_53178_13 (fun H locs hP hD hS => ?_)
        rw [cx_set, List.set_set, nI_clamp (Nat.lt_trans hj hn)] at hP hD
        refine lv_iinc (v := nI (j + 1)) (lv' := [(2, .int (nI (j + 1))), (3, .int (nI n)), (0, .ref a), (1, .int v)]) hx hb d7_fill_53178_14 hl (k := 0) rfl (by rw [show Int32.ofInt 1 = 1 from rfl]; exact nI_1 j) (by decide) rfl (fun ls hl => ?_)
        refine lv_goto (tgt := 5) hx hb d7_fill_53178_17 (by decide) ?_
        refine ih (j + 1) (by omega) (by omega) _ H locs ls (fun x hx => ?_) hP hD hS hl
        by_cases hxj : x = j
        · simp [upd, hxj]
        · simp only [upd, hxj, if_false]
          exact hg x (by omega)
  have h0 : L.set i (a, .inl (cA 0, n, .inl f)) = L := by
    apply List.ext_getElem?
    intro x
    by_cases hx : x = i
    · subst hx
      rw [List.getElem?_set_self (List.getElem?_eq_some_iff.mp he).1, he]
    · rw [List.getElem?_set_ne (fun z => hx z.symm)]
  exact loop n 0 (Nat.zero_le _) (by omega) f s.heap [] ls (fun x hx => absurd hx (by omega)) (by rw [h0]; exact hP) (by rw [h0]; exact hD) va_S.rf (lv_sub hl [1, 0, 2, 3] rfl)
abbrev b7_init : ByteArray := prog_9_method_1_code
def y7_init : MethodName := ⟨cn_7, "<init>", "()V"⟩
theorem d7_init_0 : decode b7_init 0 = .ok (.aload_n 0, 1) := by decide +kernel
theorem d7_init_1 : decode b7_init 1 = .ok (.invokespecial 3, 3) := by decide +kernel
theorem d7_init_4 : decode b7_init 4 = .ok (.aload_n 0, 1) := by decide +kernel
theorem d7_init_5 : decode b7_init 5 = .ok (.sipush 700, 3) := by decide +kernel
theorem d7_init_8 : decode b7_init 8 = .ok (.newarray .byte, 2) := by decide +kernel
theorem d7_init_10 : decode b7_init 10 = .ok (.putfield 9, 3) := by decide +kernel
theorem d7_init_13 : decode b7_init 13 = .ok (.aload_n 0, 1) := by decide +kernel
theorem d7_init_14 : decode b7_init 14 = .ok (.iconst 0, 1) := by decide +kernel
theorem d7_init_15 : decode b7_init 15 = .ok (.putfield 15, 3) := by decide +kernel
theorem d7_init_18 : decode b7_init 18 = .ok (.return_, 1) := by decide +kernel
def cz_7 (cA : Nat → ClassId) (q : Nat) (x : Nat) : va_W := [(q, .inr (7, [.ref x, .int (0 : Int32)])), (x, .inl (cA 1, 700, .inl (fun _ => 0)))]
theorem mo_7 : Cond.methodLink cn_7 3 Lib.objectInit ∈ ce_cm := ce_cm_of (List.mem_of_getElem? (i := 128) (by decide +kernel)) (by decide +kernel)
set_option maxRecDepth 20000 in
set_option maxHeartbeats 4000000 in
theorem ci_7 (l : Launch) (D : va_G) (cA : Nat → ClassId) (aK aV : Nat → Nat) (B0 : Nat) (pre : va_W) (q : Nat) : cx_Ct l D cA B0 (ce_St aK aV B0) y7_init b7_init 1 1 12 1 700 [.ref q] (pre ++ [(q, .inr (7, [.null, .int 0]))]) (fun (_ : Nat) => True) (fun x => pre ++ cz_7 cA q x) := by
  refine cx_enter (by decide) rfl rfl (Nat.le_of_ble_eq_true rfl) (fun p e0 s m below meth c ls C hH hl => ?_)
  have hl : lv_has ls 1 [(0, .ref q)] := hl
  have hx := C.1
  have hb := C.2.1
  refine lv_aload_n hx hb d7_init_0 rfl (lv_at hl 0 rfl) ?_
  refine cx_obj C mo_7 mI_obj mC_obj hl.1 d7_init_1 (Nat.le_of_ble_eq_true rfl) (Nat.le_of_ble_eq_true rfl) ?_
  refine lv_aload_n hx hb d7_init_4 rfl (lv_at hl 0 rfl) ?_
  refine lv_sipush (v := (700 : Int32)) hx hb d7_init_5 (by decide) ?_
  refine cx_newa C hH .byte 1 (ty := .byte) rfl rfl mA_1 (fun _ => rfl) rfl (N := 700) (by decide) (by decide) (by decide) (Nat.le_of_ble_eq_true rfl) (Nat.le_of_ble_eq_true rfl) d7_init_8 (fun a8 H hH => ?_)
  have hH : cx_H D B0 s (pre ++ [(q, .inr (7, [.null, .int 0])), (a8, .inl (cA 1, 700, .inl (fun _ => 0)))]) H locs := hH
  refine cx_put C hH (i := 0) (ci := 7) (j := 0) (N := 2) (fy := fy_7) (v := .ref a8) rfl rfl fw_7 fo_7 fn_7 (by decide) fl_7_9 rfl rfl rfl (by decide) d7_init_10 (fun H locs hH => ?_)
  have hH : cx_H D B0 s (pre ++ [(q, .inr (7, [.ref a8, .int 0])), (a8, .inl (cA 1, 700, .inl (fun _ => 0)))]) H locs := hH
  refine lv_aload_n hx hb d7_init_13 rfl (lv_at hl 0 rfl) ?_
  refine lv_iconst (v := (0 : Int32)) hx hb d7_init_14 (by decide) ?_
  refine cx_put C hH (i := 0) (ci := 7) (j := 1) (N := 2) (fy := fy_7) (v := .int (0 : Int32)) rfl rfl fw_7 fo_7 fn_7 (by decide) fl_7_15 rfl rfl rfl (by decide) d7_init_15 (fun H locs hH => ?_)
  have hH : cx_H D B0 s (pre ++ [(q, .inr (7, [.ref a8, .int (0 : Int32)])), (a8, .inl (cA 1, 700, .inl (fun _ => 0)))]) H locs := hH
  exact cx_ret C (ce_sok aK aV B0) a8 trivial hH d7_init_18
abbrev b6_init : ByteArray := prog_8_method_1_code
def y6_init : MethodName := ⟨cn_6, "<init>", "()V"⟩
theorem d6_init_0 : decode b6_init 0 = .ok (.aload_n 0, 1) := by decide +kernel
theorem d6_init_1 : decode b6_init 1 = .ok (.invokespecial 3, 3) := by decide +kernel
theorem d6_init_4 : decode b6_init 4 = .ok (.aload_n 0, 1) := by decide +kernel
theorem d6_init_5 : decode b6_init 5 = .ok (.new 9, 3) := by decide +kernel
theorem d6_init_8 : decode b6_init 8 = .ok (.dup, 1) := by decide +kernel
theorem d6_init_9 : decode b6_init 9 = .ok (.invokespecial 11, 3) := by decide +kernel
theorem d6_init_12 : decode b6_init 12 = .ok (.putfield 12, 3) := by decide +kernel
theorem d6_init_15 : decode b6_init 15 = .ok (.aload_n 0, 1) := by decide +kernel
theorem d6_init_16 : decode b6_init 16 = .ok (.iconst 0, 1) := by decide +kernel
theorem d6_init_17 : decode b6_init 17 = .ok (.putfield 18, 3) := by decide +kernel
theorem d6_init_20 : decode b6_init 20 = .ok (.aload_n 0, 1) := by decide +kernel
theorem d6_init_21 : decode b6_init 21 = .ok (.iconst 0, 1) := by decide +kernel
theorem d6_init_22 : decode b6_init 22 = .ok (.putfield 22, 3) := by decide +kernel
theorem d6_init_25 : decode b6_init 25 = .ok (.aload_n 0, 1) := by decide +kernel
theorem d6_init_26 : decode b6_init 26 = .ok (.iconst 0, 1) := by decide +kernel
theorem d6_init_27 : decode b6_init 27 = .ok (.putfield 25, 3) := by decide +kernel
theorem d6_init_30 : decode b6_init 30 = .ok (.aload_n 0, 1) := by decide +kernel
theorem d6_init_31 : decode b6_init 31 = .ok (.iconst 0, 1) := by decide +kernel
theorem d6_init_32 : decode b6_init 32 = .ok (.putfield 28, 3) := by decide +kernel
theorem d6_init_35 : decode b6_init 35 = .ok (.aload_n 0, 1) := by decide +kernel
theorem d6_init_36 : decode b6_init 36 = .ok (.iconst (-1), 1) := by decide +kernel
theorem d6_init_37 : decode b6_init 37 = .ok (.putfield 31, 3) := by decide +kernel
theorem d6_init_40 : decode b6_init 40 = .ok (.return_, 1) := by decide +kernel
def cz_6 (cA : Nat → ClassId) (q : Nat) (x : Nat × Nat) : va_W := ((q, .inr (6, [.ref x.1, .int (0 : Int32), .int (0 : Int32), .int (0 : Int32), .int (0 : Int32), .int (-1 : Int32)])) :: cz_7 cA x.1 x.2)
theorem mo_6 : Cond.methodLink cn_6 3 Lib.objectInit ∈ ce_cm := ce_cm_of (List.mem_of_getElem? (i := 122) (by decide +kernel)) (by decide +kernel)
theorem mL_6_9 : Cond.classLink cn_6 9 cn_7 ∈ ce_cm := ce_cm_of (List.mem_of_getElem? (i := 123) (by decide +kernel)) (by decide +kernel)
theorem mN_7 : Cond.instantiable cn_7 2 ∈ ce_cm := ce_cm_of (List.mem_of_getElem? (i := 124) (by decide +kernel)) (by decide +kernel)
theorem mc7_init : Cond.code y7_init b7_init 1 none ∈ ce_cm := ce_cm_of (List.mem_of_getElem? (i := 127) (by decide +kernel)) (by decide +kernel)
theorem mi7_init : Cond.instanceMethod y7_init ∈ ce_cm := ce_cm_of (List.mem_of_getElem? (i := 126) (by decide +kernel)) (by decide +kernel)
set_option maxRecDepth 20000 in
set_option maxHeartbeats 4000000 in
theorem ci_6 (l : Launch) (D : va_G) (cA : Nat → ClassId) (aK aV : Nat → Nat) (B0 : Nat) (pre : va_W) (q : Nat) : cx_Ct l D cA B0 (ce_St aK aV B0) y6_init b6_init 1 2 32 2 702 [.ref q] (pre ++ [(q, .inr (6, [.null, .int 0, .int 0, .int 0, .int 0, .int 0]))]) (fun (_ : Nat × Nat) => True) (fun x => pre ++ cz_6 cA q x) := by
  refine cx_enter (by decide) rfl rfl (Nat.le_of_ble_eq_true rfl) (fun p e0 s m below meth c ls C hH hl => ?_)
  have hl : lv_has ls 1 [(0, .ref q)] := hl
  have hx := C.1
  have hb := C.2.1
  refine lv_aload_n hx hb d6_init_0 rfl (lv_at hl 0 rfl) ?_
  refine cx_obj C mo_6 mI_obj mC_obj hl.1 d6_init_1 (Nat.le_of_ble_eq_true rfl) (Nat.le_of_ble_eq_true rfl) ?_
  refine lv_aload_n hx hb d6_init_4 rfl (lv_at hl 0 rfl) ?_
  refine cx_new C hH (ci := 7) (fs := [.null, .int 0]) rfl fw_7 fo_7 mL_6_9 mN_7 mI_7 (by decide +kernel) (Nat.le_of_ble_eq_true rfl) (Nat.le_of_ble_eq_true rfl) d6_init_5 (fun a5 H hH => ?_)
  refine lv_dup hx hb d6_init_8 rfl ?_
  refine cx_callIN (rest := [.ref a5, .ref q]) C (ce_sok aK aV B0) hH (ci_7 l D cA aK aV B0 (pre ++ [(q, .inr (6, [.null, .int 0, .int 0, .int 0, .int 0, .int 0]))]) a5) rfl mc7_init (ce_nwW C.2.2.2.2.2.2.2.2.2.1 1 rfl) mi7_init mI_7 (by decide) ⟨Nat.le_of_ble_eq_true rfl, Nat.le_of_ble_eq_true rfl⟩ ⟨Nat.le_of_ble_eq_true rfl, Nat.le_of_ble_eq_true rfl⟩ hl.1 (Nat.le_of_ble_eq_true rfl) d6_init_9 (fun x9 H locs px9 hH => ?_)
  rw [List.append_assoc] at hH
  have hH : cx_H D B0 s (pre ++ ((q, .inr (6, [.null, .int 0, .int 0, .int 0, .int 0, .int 0])) :: cz_7 cA a5 x9)) H locs := hH
  refine cx_put C hH (i := 0) (ci := 6) (j := 0) (N := 6) (fy := fy_6) (v := .ref a5) rfl rfl fw_6 fo_6 fn_6 (by decide) fl_6_12 rfl rfl rfl (by decide) d6_init_12 (fun H locs hH => ?_)
  have hH : cx_H D B0 s (pre ++ ((q, .inr (6, [.ref a5, .int 0, .int 0, .int 0, .int 0, .int 0])) :: cz_7 cA a5 x9)) H locs := hH
  refine lv_aload_n hx hb d6_init_15 rfl (lv_at hl 0 rfl) ?_
  refine lv_iconst (v := (0 : Int32)) hx hb d6_init_16 (by decide) ?_
  refine cx_put C hH (i := 0) (ci := 6) (j := 1) (N := 6) (fy := fy_6) (v := .int (0 : Int32)) rfl rfl fw_6 fo_6 fn_6 (by decide) fl_6_18 rfl rfl rfl (by decide) d6_init_17 (fun H locs hH => ?_)
  have hH : cx_H D B0 s (pre ++ ((q, .inr (6, [.ref a5, .int (0 : Int32), .int 0, .int 0, .int 0, .int 0])) :: cz_7 cA a5 x9)) H locs := hH
  refine lv_aload_n hx hb d6_init_20 rfl (lv_at hl 0 rfl) ?_
  refine lv_iconst (v := (0 : Int32)) hx hb d6_init_21 (by decide) ?_
  refine cx_put C hH (i := 0) (ci := 6) (j := 2) (N := 6) (fy := fy_6) (v := .int (0 : Int32)) rfl rfl fw_6 fo_6 fn_6 (by decide) fl_6_22 rfl rfl rfl (by decide) d6_init_22 (fun H locs hH => ?_)
  have hH : cx_H D B0 s (pre ++ ((q, .inr (6, [.ref a5, .int (0 : Int32), .int (0 : Int32), .int 0, .int 0, .int 0])) :: cz_7 cA a5 x9)) H locs := hH
  refine lv_aload_n hx hb d6_init_25 rfl (lv_at hl 0 rfl) ?_
  refine lv_iconst (v := (0 : Int32)) hx hb d6_init_26 (by decide) ?_
  refine cx_put C hH (i := 0) (ci := 6) (j := 3) (N := 6) (fy := fy_6) (v := .int (0 : Int32)) rfl rfl fw_6 fo_6 fn_6 (by decide) fl_6_25 rfl rfl rfl (by decide) d6_init_27 (fun H locs hH => ?_)
  have hH : cx_H D B0 s (pre ++ ((q, .inr (6, [.ref a5, .int (0 : Int32), .int (0 : Int32), .int (0 : Int32), .int 0, .int 0])) :: cz_7 cA a5 x9)) H locs := hH
  refine lv_aload_n hx hb d6_init_30 rfl (lv_at hl 0 rfl) ?_
  refine lv_iconst (v := (0 : Int32)) hx hb d6_init_31 (by decide) ?_
  refine cx_put C hH (i := 0) (ci := 6) (j := 4) (N := 6) (fy := fy_6) (v := .int (0 : Int32)) rfl rfl fw_6 fo_6 fn_6 (by decide) fl_6_28 rfl rfl rfl (by decide) d6_init_32 (fun H locs hH => ?_)
  have hH : cx_H D B0 s (pre ++ ((q, .inr (6, [.ref a5, .int (0 : Int32), .int (0 : Int32), .int (0 : Int32), .int (0 : Int32), .int 0])) :: cz_7 cA a5 x9)) H locs := hH
  refine lv_aload_n hx hb d6_init_35 rfl (lv_at hl 0 rfl) ?_
  refine lv_iconst (v := (-1 : Int32)) hx hb d6_init_36 (by decide) ?_
  refine cx_put C hH (i := 0) (ci := 6) (j := 5) (N := 6) (fy := fy_6) (v := .int (-1 : Int32)) rfl rfl fw_6 fo_6 fn_6 (by decide) fl_6_31 rfl rfl rfl (by decide) d6_init_37 (fun H locs hH => ?_)
  have hH : cx_H D B0 s (pre ++ ((q, .inr (6, [.ref a5, .int (0 : Int32), .int (0 : Int32), .int (0 : Int32), .int (0 : Int32), .int (-1 : Int32)])) :: cz_7 cA a5 x9)) H locs := hH
  exact cx_ret C (ce_sok aK aV B0) (a5, x9) trivial hH d6_init_40
abbrev b8_init : ByteArray := prog_10_method_1_code
def y8_init : MethodName := ⟨cn_8, "<init>", "()V"⟩
theorem d8_init_0 : decode b8_init 0 = .ok (.aload_n 0, 1) := by decide +kernel
theorem d8_init_1 : decode b8_init 1 = .ok (.invokespecial 3, 3) := by decide +kernel
theorem d8_init_4 : decode b8_init 4 = .ok (.aload_n 0, 1) := by decide +kernel
theorem d8_init_5 : decode b8_init 5 = .ok (.bipush 10, 2) := by decide +kernel
theorem d8_init_7 : decode b8_init 7 = .ok (.newarray .int, 2) := by decide +kernel
theorem d8_init_9 : decode b8_init 9 = .ok (.putfield 9, 3) := by decide +kernel
theorem d8_init_12 : decode b8_init 12 = .ok (.aload_n 0, 1) := by decide +kernel
theorem d8_init_13 : decode b8_init 13 = .ok (.bipush 10, 2) := by decide +kernel
theorem d8_init_15 : decode b8_init 15 = .ok (.newarray .int, 2) := by decide +kernel
theorem d8_init_17 : decode b8_init 17 = .ok (.putfield 15, 3) := by decide +kernel
theorem d8_init_20 : decode b8_init 20 = .ok (.return_, 1) := by decide +kernel
def cz_8 (cA : Nat → ClassId) (q : Nat) (x : Nat × Nat) : va_W := [(q, .inr (8, [.ref x.1, .ref x.2])), (x.1, .inl (cA 0, 10, .inl (fun _ => 0))), (x.2, .inl (cA 0, 10, .inl (fun _ => 0)))]
theorem mo_8 : Cond.methodLink cn_8 3 Lib.objectInit ∈ ce_cm := ce_cm_of (List.mem_of_getElem? (i := 174) (by decide +kernel)) (by decide +kernel)
set_option maxRecDepth 20000 in
set_option maxHeartbeats 4000000 in
theorem ci_8 (l : Launch) (D : va_G) (cA : Nat → ClassId) (aK aV : Nat → Nat) (B0 : Nat) (pre : va_W) (q : Nat) : cx_Ct l D cA B0 (ce_St aK aV B0) y8_init b8_init 1 1 12 2 20 [.ref q] (pre ++ [(q, .inr (8, [.null, .null]))]) (fun (_ : Nat × Nat) => True) (fun x => pre ++ cz_8 cA q x) := by
  refine cx_enter (by decide) rfl rfl (Nat.le_of_ble_eq_true rfl) (fun p e0 s m below meth c ls C hH hl => ?_)
  have hl : lv_has ls 1 [(0, .ref q)] := hl
  have hx := C.1
  have hb := C.2.1
  refine lv_aload_n hx hb d8_init_0 rfl (lv_at hl 0 rfl) ?_
  refine cx_obj C mo_8 mI_obj mC_obj hl.1 d8_init_1 (Nat.le_of_ble_eq_true rfl) (Nat.le_of_ble_eq_true rfl) ?_
  refine lv_aload_n hx hb d8_init_4 rfl (lv_at hl 0 rfl) ?_
  refine lv_bipush (v := (10 : Int32)) hx hb d8_init_5 (by decide) ?_
  refine cx_newa C hH .int 0 (ty := .int) rfl rfl mA_0 (fun _ => rfl) rfl (N := 10) (by decide) (by decide) (by decide) (Nat.le_of_ble_eq_true rfl) (Nat.le_of_ble_eq_true rfl) d8_init_7 (fun a7 H hH => ?_)
  have hH : cx_H D B0 s (pre ++ [(q, .inr (8, [.null, .null])), (a7, .inl (cA 0, 10, .inl (fun _ => 0)))]) H locs := hH
  refine cx_put C hH (i := 0) (ci := 8) (j := 0) (N := 2) (fy := fy_8) (v := .ref a7) rfl rfl fw_8 fo_8 fn_8 (by decide) fl_8_9 rfl rfl rfl (by decide) d8_init_9 (fun H locs hH => ?_)
  have hH : cx_H D B0 s (pre ++ [(q, .inr (8, [.ref a7, .null])), (a7, .inl (cA 0, 10, .inl (fun _ => 0)))]) H locs := hH
  refine lv_aload_n hx hb d8_init_12 rfl (lv_at hl 0 rfl) ?_
  refine lv_bipush (v := (10 : Int32)) hx hb d8_init_13 (by decide) ?_
  refine cx_newa C hH .int 0 (ty := .int) rfl rfl mA_0 (fun _ => rfl) rfl (N := 10) (by decide) (by decide) (by decide) (Nat.le_of_ble_eq_true rfl) (Nat.le_of_ble_eq_true rfl) d8_init_15 (fun a15 H hH => ?_)
  have hH : cx_H D B0 s (pre ++ [(q, .inr (8, [.ref a7, .null])), (a7, .inl (cA 0, 10, .inl (fun _ => 0))), (a15, .inl (cA 0, 10, .inl (fun _ => 0)))]) H locs := hH
  refine cx_put C hH (i := 0) (ci := 8) (j := 1) (N := 2) (fy := fy_8) (v := .ref a15) rfl rfl fw_8 fo_8 fn_8 (by decide) fl_8_15 rfl rfl rfl (by decide) d8_init_17 (fun H locs hH => ?_)
  have hH : cx_H D B0 s (pre ++ [(q, .inr (8, [.ref a7, .ref a15])), (a7, .inl (cA 0, 10, .inl (fun _ => 0))), (a15, .inl (cA 0, 10, .inl (fun _ => 0)))]) H locs := hH
  exact cx_ret C (ce_sok aK aV B0) (a7, a15) trivial hH d8_init_20
abbrev b5_init : ByteArray := prog_7_method_1_code
def y5_init : MethodName := ⟨cn_5, "<init>", "()V"⟩
theorem d5_init_0 : decode b5_init 0 = .ok (.aload_n 0, 1) := by decide +kernel
theorem d5_init_1 : decode b5_init 1 = .ok (.invokespecial 3, 3) := by decide +kernel
theorem d5_init_4 : decode b5_init 4 = .ok (.aload_n 0, 1) := by decide +kernel
theorem d5_init_5 : decode b5_init 5 = .ok (.iconst 0, 1) := by decide +kernel
theorem d5_init_6 : decode b5_init 6 = .ok (.putfield 9, 3) := by decide +kernel
theorem d5_init_9 : decode b5_init 9 = .ok (.aload_n 0, 1) := by decide +kernel
theorem d5_init_10 : decode b5_init 10 = .ok (.iconst 0, 1) := by decide +kernel
theorem d5_init_11 : decode b5_init 11 = .ok (.putfield 15, 3) := by decide +kernel
theorem d5_init_14 : decode b5_init 14 = .ok (.aload_n 0, 1) := by decide +kernel
theorem d5_init_15 : decode b5_init 15 = .ok (.iconst 0, 1) := by decide +kernel
theorem d5_init_16 : decode b5_init 16 = .ok (.putfield 18, 3) := by decide +kernel
theorem d5_init_19 : decode b5_init 19 = .ok (.aload_n 0, 1) := by decide +kernel
theorem d5_init_20 : decode b5_init 20 = .ok (.iconst 0, 1) := by decide +kernel
theorem d5_init_21 : decode b5_init 21 = .ok (.putfield 21, 3) := by decide +kernel
theorem d5_init_24 : decode b5_init 24 = .ok (.aload_n 0, 1) := by decide +kernel
theorem d5_init_25 : decode b5_init 25 = .ok (.iconst 0, 1) := by decide +kernel
theorem d5_init_26 : decode b5_init 26 = .ok (.putfield 24, 3) := by decide +kernel
theorem d5_init_29 : decode b5_init 29 = .ok (.aload_n 0, 1) := by decide +kernel
theorem d5_init_30 : decode b5_init 30 = .ok (.bipush 10, 2) := by decide +kernel
theorem d5_init_32 : decode b5_init 32 = .ok (.newarray .int, 2) := by decide +kernel
theorem d5_init_34 : decode b5_init 34 = .ok (.putfield 27, 3) := by decide +kernel
theorem d5_init_37 : decode b5_init 37 = .ok (.aload_n 0, 1) := by decide +kernel
theorem d5_init_38 : decode b5_init 38 = .ok (.bipush 10, 2) := by decide +kernel
theorem d5_init_40 : decode b5_init 40 = .ok (.newarray .boolean, 2) := by decide +kernel
theorem d5_init_42 : decode b5_init 42 = .ok (.putfield 31, 3) := by decide +kernel
theorem d5_init_45 : decode b5_init 45 = .ok (.aload_n 0, 1) := by decide +kernel
theorem d5_init_46 : decode b5_init 46 = .ok (.bipush 10, 2) := by decide +kernel
theorem d5_init_48 : decode b5_init 48 = .ok (.newarray .int, 2) := by decide +kernel
theorem d5_init_50 : decode b5_init 50 = .ok (.putfield 35, 3) := by decide +kernel
theorem d5_init_53 : decode b5_init 53 = .ok (.aload_n 0, 1) := by decide +kernel
theorem d5_init_54 : decode b5_init 54 = .ok (.bipush 10, 2) := by decide +kernel
theorem d5_init_56 : decode b5_init 56 = .ok (.newarray .int, 2) := by decide +kernel
theorem d5_init_58 : decode b5_init 58 = .ok (.putfield 38, 3) := by decide +kernel
theorem d5_init_61 : decode b5_init 61 = .ok (.aload_n 0, 1) := by decide +kernel
theorem d5_init_62 : decode b5_init 62 = .ok (.bipush 40, 2) := by decide +kernel
theorem d5_init_64 : decode b5_init 64 = .ok (.newarray .int, 2) := by decide +kernel
theorem d5_init_66 : decode b5_init 66 = .ok (.putfield 41, 3) := by decide +kernel
theorem d5_init_69 : decode b5_init 69 = .ok (.aload_n 0, 1) := by decide +kernel
theorem d5_init_70 : decode b5_init 70 = .ok (.bipush 40, 2) := by decide +kernel
theorem d5_init_72 : decode b5_init 72 = .ok (.newarray .int, 2) := by decide +kernel
theorem d5_init_74 : decode b5_init 74 = .ok (.putfield 44, 3) := by decide +kernel
theorem d5_init_77 : decode b5_init 77 = .ok (.aload_n 0, 1) := by decide +kernel
theorem d5_init_78 : decode b5_init 78 = .ok (.getfield 41, 3) := by decide +kernel
theorem d5_init_81 : decode b5_init 81 = .ok (.iconst (-1), 1) := by decide +kernel
theorem d5_init_82 : decode b5_init 82 = .ok (.invokestatic 47, 3) := by decide +kernel
theorem d5_init_85 : decode b5_init 85 = .ok (.return_, 1) := by decide +kernel
def cz_5 (cA : Nat → ClassId) (q : Nat) (x : Nat × Nat × Nat × Nat × Nat × Nat × (Nat → Int32)) : va_W := [(q, .inr (5, [.int (0 : Int32), .int (0 : Int32), .int (0 : Int32), .int (0 : Int32), .int (0 : Int32), .ref x.1, .ref x.2.1, .ref x.2.2.1, .ref x.2.2.2.1, .ref x.2.2.2.2.1, .ref x.2.2.2.2.2.1])), (x.1, .inl (cA 0, 10, .inl (fun _ => 0))), (x.2.1, .inl (cA 2, 10, .inl (fun _ => 0))), (x.2.2.1, .inl (cA 0, 10, .inl (fun _ => 0))), (x.2.2.2.1, .inl (cA 0, 10, .inl (fun _ => 0))), (x.2.2.2.2.1, .inl (cA 0, 40, .inl x.2.2.2.2.2.2)), (x.2.2.2.2.2.1, .inl (cA 0, 40, .inl (fun _ => 0)))]
def cp_5 (x : Nat × Nat × Nat × Nat × Nat × Nat × (Nat → Int32)) : Prop := (∀ j, j < 40 → x.2.2.2.2.2.2 j = (-1 : Int32))
theorem mo_5 : Cond.methodLink cn_5 3 Lib.objectInit ∈ ce_cm := ce_cm_of (List.mem_of_getElem? (i := 188) (by decide +kernel)) (by decide +kernel)
set_option maxRecDepth 20000 in
set_option maxHeartbeats 4000000 in
theorem ci_5 (l : Launch) (D : va_G) (cA : Nat → ClassId) (aK aV : Nat → Nat) (B0 : Nat) (pre : va_W) (q : Nat) : cx_Ct l D cA B0 (ce_St aK aV B0) y5_init b5_init 1 1 40 6 120 [.ref q] (pre ++ [(q, .inr (5, [.int 0, .int 0, .int 0, .int 0, .int 0, .null, .null, .null, .null, .null, .null]))]) (fun x => cp_5 x) (fun x => pre ++ cz_5 cA q x) := by
  refine cx_enter (by decide) rfl rfl (Nat.le_of_ble_eq_true rfl) (fun p e0 s m below meth c ls C hH hl => ?_)
  have hl : lv_has ls 1 [(0, .ref q)] := hl
  have hx := C.1
  have hb := C.2.1
  refine lv_aload_n hx hb d5_init_0 rfl (lv_at hl 0 rfl) ?_
  refine cx_obj C mo_5 mI_obj mC_obj hl.1 d5_init_1 (Nat.le_of_ble_eq_true rfl) (Nat.le_of_ble_eq_true rfl) ?_
  refine lv_aload_n hx hb d5_init_4 rfl (lv_at hl 0 rfl) ?_
  refine lv_iconst (v := (0 : Int32)) hx hb d5_init_5 (by decide) ?_
  refine cx_put C hH (i := 0) (ci := 5) (j := 0) (N := 11) (fy := fy_5) (v := .int (0 : Int32)) rfl rfl fw_5 fo_5 fn_5 (by decide) fl_5_9 rfl rfl rfl (by decide) d5_init_6 (fun H locs hH => ?_)
  have hH : cx_H D B0 s (pre ++ [(q, .inr (5, [.int (0 : Int32), .int 0, .int 0, .int 0, .int 0, .null, .null, .null, .null, .null, .null]))]) H locs := hH
  refine lv_aload_n hx hb d5_init_9 rfl (lv_at hl 0 rfl) ?_
  refine lv_iconst (v := (0 : Int32)) hx hb d5_init_10 (by decide) ?_
  refine cx_put C hH (i := 0) (ci := 5) (j := 1) (N := 11) (fy := fy_5) (v := .int (0 : Int32)) rfl rfl fw_5 fo_5 fn_5 (by decide) fl_5_15 rfl rfl rfl (by decide) d5_init_11 (fun H locs hH => ?_)
  have hH : cx_H D B0 s (pre ++ [(q, .inr (5, [.int (0 : Int32), .int (0 : Int32), .int 0, .int 0, .int 0, .null, .null, .null, .null, .null, .null]))]) H locs := hH
  refine lv_aload_n hx hb d5_init_14 rfl (lv_at hl 0 rfl) ?_
  refine lv_iconst (v := (0 : Int32)) hx hb d5_init_15 (by decide) ?_
  refine cx_put C hH (i := 0) (ci := 5) (j := 2) (N := 11) (fy := fy_5) (v := .int (0 : Int32)) rfl rfl fw_5 fo_5 fn_5 (by decide) fl_5_18 rfl rfl rfl (by decide) d5_init_16 (fun H locs hH => ?_)
  have hH : cx_H D B0 s (pre ++ [(q, .inr (5, [.int (0 : Int32), .int (0 : Int32), .int (0 : Int32), .int 0, .int 0, .null, .null, .null, .null, .null, .null]))]) H locs := hH
  refine lv_aload_n hx hb d5_init_19 rfl (lv_at hl 0 rfl) ?_
  refine lv_iconst (v := (0 : Int32)) hx hb d5_init_20 (by decide) ?_
  refine cx_put C hH (i := 0) (ci := 5) (j := 3) (N := 11) (fy := fy_5) (v := .int (0 : Int32)) rfl rfl fw_5 fo_5 fn_5 (by decide) fl_5_21 rfl rfl rfl (by decide) d5_init_21 (fun H locs hH => ?_)
  have hH : cx_H D B0 s (pre ++ [(q, .inr (5, [.int (0 : Int32), .int (0 : Int32), .int (0 : Int32), .int (0 : Int32), .int 0, .null, .null, .null, .null, .null, .null]))]) H locs := hH
  refine lv_aload_n hx hb d5_init_24 rfl (lv_at hl 0 rfl) ?_
  refine lv_iconst (v := (0 : Int32)) hx hb d5_init_25 (by decide) ?_
  refine cx_put C hH (i := 0) (ci := 5) (j := 4) (N := 11) (fy := fy_5) (v := .int (0 : Int32)) rfl rfl fw_5 fo_5 fn_5 (by decide) fl_5_24 rfl rfl rfl (by decide) d5_init_26 (fun H locs hH => ?_)
  have hH : cx_H D B0 s (pre ++ [(q, .inr (5, [.int (0 : Int32), .int (0 : Int32), .int (0 : Int32), .int (0 : Int32), .int (0 : Int32), .null, .null, .null, .null, .null, .null]))]) H locs := hH
  refine lv_aload_n hx hb d5_init_29 rfl (lv_at hl 0 rfl) ?_
  refine lv_bipush (v := (10 : Int32)) hx hb d5_init_30 (by decide) ?_
  refine cx_newa C hH .int 0 (ty := .int) rfl rfl mA_0 (fun _ => rfl) rfl (N := 10) (by decide) (by decide) (by decide) (Nat.le_of_ble_eq_true rfl) (Nat.le_of_ble_eq_true rfl) d5_init_32 (fun a32 H hH => ?_)
  have hH : cx_H D B0 s (pre ++ [(q, .inr (5, [.int (0 : Int32), .int (0 : Int32), .int (0 : Int32), .int (0 : Int32), .int (0 : Int32), .null, .null, .null, .null, .null, .null])), (a32, .inl (cA 0, 10, .inl (fun _ => 0)))]) H locs := hH
  refine cx_put C hH (i := 0) (ci := 5) (j := 5) (N := 11) (fy := fy_5) (v := .ref a32) rfl rfl fw_5 fo_5 fn_5 (by decide) fl_5_27 rfl rfl rfl (by decide) d5_init_34 (fun H locs hH => ?_)
  have hH : cx_H D B0 s (pre ++ [(q, .inr (5, [.int (0 : Int32), .int (0 : Int32), .int (0 : Int32), .int (0 : Int32), .int (0 : Int32), .ref a32, .null, .null, .null, .null, .null])), (a32, .inl (cA 0, 10, .inl (fun _ => 0)))]) H locs := hH
  refine lv_aload_n hx hb d5_init_37 rfl (lv_at hl 0 rfl) ?_
  refine lv_bipush (v := (10 : Int32)) hx hb d5_init_38 (by decide) ?_
  refine cx_newa C hH .boolean 2 (ty := .boolean) rfl rfl mA_2 (fun _ => rfl) rfl (N := 10) (by decide) (by decide) (by decide) (Nat.le_of_ble_eq_true rfl) (Nat.le_of_ble_eq_true rfl) d5_init_40 (fun a40 H hH => ?_)
  have hH : cx_H D B0 s (pre ++ [(q, .inr (5, [.int (0 : Int32), .int (0 : Int32), .int (0 : Int32), .int (0 : Int32), .int (0 : Int32), .ref a32, .null, .null, .null, .null, .null])), (a32, .inl (cA 0, 10, .inl (fun _ => 0))), (a40, .inl (cA 2, 10, .inl (fun _ => 0)))]) H locs := hH
  refine cx_put C hH (i := 0) (ci := 5) (j := 6) (N := 11) (fy := fy_5) (v := .ref a40) rfl rfl fw_5 fo_5 fn_5 (by decide) fl_5_31 rfl rfl rfl (by decide) d5_init_42 (fun H locs hH => ?_)
  have hH : cx_H D B0 s (pre ++ [(q, .inr (5, [.int (0 : Int32), .int (0 : Int32), .int (0 : Int32), .int (0 : Int32), .int (0 : Int32), .ref a32, .ref a40, .null, .null, .null, .null])), (a32, .inl (cA 0, 10, .inl (fun _ => 0))), (a40, .inl (cA 2, 10, .inl (fun _ => 0)))]) H locs := hH
  refine lv_aload_n hx hb d5_init_45 rfl (lv_at hl 0 rfl) ?_
  refine lv_bipush (v := (10 : Int32)) hx hb d5_init_46 (by decide) ?_
  refine cx_newa C hH .int 0 (ty := .int) rfl rfl mA_0 (fun _ => rfl) rfl (N := 10) (by decide) (by decide) (by decide) (Nat.le_of_ble_eq_true rfl) (Nat.le_of_ble_eq_true rfl) d5_init_48 (fun a48 H hH => ?_)
  have hH : cx_H D B0 s (pre ++ [(q, .inr (5, [.int (0 : Int32), .int (0 : Int32), .int (0 : Int32), .int (0 : Int32), .int (0 : Int32), .ref a32, .ref a40, .null, .null, .null, .null])), (a32, .inl (cA 0, 10, .inl (fun _ => 0))), (a40, .inl (cA 2, 10, .inl (fun _ => 0))), (a48, .inl (cA 0, 10, .inl (fun _ => 0)))]) H locs := hH
  refine cx_put C hH (i := 0) (ci := 5) (j := 7) (N := 11) (fy := fy_5) (v := .ref a48) rfl rfl fw_5 fo_5 fn_5 (by decide) fl_5_35 rfl rfl rfl (by decide) d5_init_50 (fun H locs hH => ?_)
  have hH : cx_H D B0 s (pre ++ [(q, .inr (5, [.int (0 : Int32), .int (0 : Int32), .int (0 : Int32), .int (0 : Int32), .int (0 : Int32), .ref a32, .ref a40, .ref a48, .null, .null, .null])), (a32, .inl (cA 0, 10, .inl (fun _ => 0))), (a40, .inl (cA 2, 10, .inl (fun _ => 0))), (a48, .inl (cA 0, 10, .inl (fun _ => 0)))]) H locs := hH
  refine lv_aload_n hx hb d5_init_53 rfl (lv_at hl 0 rfl) ?_
  refine lv_bipush (v := (10 : Int32)) hx hb d5_init_54 (by decide) ?_
  refine cx_newa C hH .int 0 (ty := .int) rfl rfl mA_0 (fun _ => rfl) rfl (N := 10) (by decide) (by decide) (by decide) (Nat.le_of_ble_eq_true rfl) (Nat.le_of_ble_eq_true rfl) d5_init_56 (fun a56 H hH => ?_)
  have hH : cx_H D B0 s (pre ++ [(q, .inr (5, [.int (0 : Int32), .int (0 : Int32), .int (0 : Int32), .int (0 : Int32), .int (0 : Int32), .ref a32, .ref a40, .ref a48, .null, .null, .null])), (a32, .inl (cA 0, 10, .inl (fun _ => 0))), (a40, .inl (cA 2, 10, .inl (fun _ => 0))), (a48, .inl (cA 0, 10, .inl (fun _ => 0))), (a56, .inl (cA 0, 10, .inl (fun _ => 0)))]) H locs := hH
  refine cx_put C hH (i := 0) (ci := 5) (j := 8) (N := 11) (fy := fy_5) (v := .ref a56) rfl rfl fw_5 fo_5 fn_5 (by decide) fl_5_38 rfl rfl rfl (by decide) d5_init_58 (fun H locs hH => ?_)
  have hH : cx_H D B0 s (pre ++ [(q, .inr (5, [.int (0 : Int32), .int (0 : Int32), .int (0 : Int32), .int (0 : Int32), .int (0 : Int32), .ref a32, .ref a40, .ref a48, .ref a56, .null, .null])), (a32, .inl (cA 0, 10, .inl (fun _ => 0))), (a40, .inl (cA 2, 10, .inl (fun _ => 0))), (a48, .inl (cA 0, 10, .inl (fun _ => 0))), (a56, .inl (cA 0, 10, .inl (fun _ => 0)))]) H locs := hH
  refine lv_aload_n hx hb d5_init_61 rfl (lv_at hl 0 rfl) ?_
  refine lv_bipush (v := (40 : Int32)) hx hb d5_init_62 (by decide) ?_
  refine cx_newa C hH .int 0 (ty := .int) rfl rfl mA_0 (fun _ => rfl) rfl (N := 40) (by decide) (by decide) (by decide) (Nat.le_of_ble_eq_true rfl) (Nat.le_of_ble_eq_true rfl) d5_init_64 (fun a64 H hH => ?_)
  have hH : cx_H D B0 s (pre ++ [(q, .inr (5, [.int (0 : Int32), .int (0 : Int32), .int (0 : Int32), .int (0 : Int32), .int (0 : Int32), .ref a32, .ref a40, .ref a48, .ref a56, .null, .null])), (a32, .inl (cA 0, 10, .inl (fun _ => 0))), (a40, .inl (cA 2, 10, .inl (fun _ => 0))), (a48, .inl (cA 0, 10, .inl (fun _ => 0))), (a56, .inl (cA 0, 10, .inl (fun _ => 0))), (a64, .inl (cA 0, 40, .inl (fun _ => 0)))]) H locs := hH
  refine cx_put C hH (i := 0) (ci := 5) (j := 9) (N := 11) (fy := fy_5) (v := .ref a64) rfl rfl fw_5 fo_5 fn_5 (by decide) fl_5_41 rfl rfl rfl (by decide) d5_init_66 (fun H locs hH => ?_)
  have hH : cx_H D B0 s (pre ++ [(q, .inr (5, [.int (0 : Int32), .int (0 : Int32), .int (0 : Int32), .int (0 : Int32), .int (0 : Int32), .ref a32, .ref a40, .ref a48, .ref a56, .ref a64, .null])), (a32, .inl (cA 0, 10, .inl (fun _ => 0))), (a40, .inl (cA 2, 10, .inl (fun _ => 0))), (a48, .inl (cA 0, 10, .inl (fun _ => 0))), (a56, .inl (cA 0, 10, .inl (fun _ => 0))), (a64, .inl (cA 0, 40, .inl (fun _ => 0)))]) H locs := hH
  refine lv_aload_n hx hb d5_init_69 rfl (lv_at hl 0 rfl) ?_
  refine lv_bipush (v := (40 : Int32)) hx hb d5_init_70 (by decide) ?_
  refine cx_newa C hH .int 0 (ty := .int) rfl rfl mA_0 (fun _ => rfl) rfl (N := 40) (by decide) (by decide) (by decide) (Nat.le_of_ble_eq_true rfl) (Nat.le_of_ble_eq_true rfl) d5_init_72 (fun a72 H hH => ?_)
  have hH : cx_H D B0 s (pre ++ [(q, .inr (5, [.int (0 : Int32), .int (0 : Int32), .int (0 : Int32), .int (0 : Int32), .int (0 : Int32), .ref a32, .ref a40, .ref a48, .ref a56, .ref a64, .null])), (a32, .inl (cA 0, 10, .inl (fun _ => 0))), (a40, .inl (cA 2, 10, .inl (fun _ => 0))), (a48, .inl (cA 0, 10, .inl (fun _ => 0))), (a56, .inl (cA 0, 10, .inl (fun _ => 0))), (a64, .inl (cA 0, 40, .inl (fun _ => 0))), (a72, .inl (cA 0, 40, .inl (fun _ => 0)))]) H locs := hH
  refine cx_put C hH (i := 0) (ci := 5) (j := 10) (N := 11) (fy := fy_5) (v := .ref a72) rfl rfl fw_5 fo_5 fn_5 (by decide) fl_5_44 rfl rfl rfl (by decide) d5_init_74 (fun H locs hH => ?_)
  have hH : cx_H D B0 s (pre ++ [(q, .inr (5, [.int (0 : Int32), .int (0 : Int32), .int (0 : Int32), .int (0 : Int32), .int (0 : Int32), .ref a32, .ref a40, .ref a48, .ref a56, .ref a64, .ref a72])), (a32, .inl (cA 0, 10, .inl (fun _ => 0))), (a40, .inl (cA 2, 10, .inl (fun _ => 0))), (a48, .inl (cA 0, 10, .inl (fun _ => 0))), (a56, .inl (cA 0, 10, .inl (fun _ => 0))), (a64, .inl (cA 0, 40, .inl (fun _ => 0))), (a72, .inl (cA 0, 40, .inl (fun _ => 0)))]) H locs := hH
  refine lv_aload_n hx hb d5_init_77 rfl (lv_at hl 0 rfl) ?_
  refine cx_get C hH (i := 0) (ci := 5) (j := 9) (N := 11) (v := .ref a64) rfl rfl fw_5 (by decide) fl_5_41 rfl d5_init_78 ?_
  refine lv_iconst (v := (-1 : Int32)) hx hb d5_init_81 (by decide) ?_
  refine cx_callS (As := [.ref a64, .int (-1 : Int32)]) (rest := []) C (ce_sok aK aV B0) hH (cx_fill l D cA aK aV B0 pre [(q, .inr (5, [.int (0 : Int32), .int (0 : Int32), .int (0 : Int32), .int (0 : Int32), .int (0 : Int32), .ref a32, .ref a40, .ref a48, .ref a56, .ref a64, .ref a72])), (a32, .inl (cA 0, 10, .inl (fun _ => 0))), (a40, .inl (cA 2, 10, .inl (fun _ => 0))), (a48, .inl (cA 0, 10, .inl (fun _ => 0))), (a56, .inl (cA 0, 10, .inl (fun _ => 0))), (a64, .inl (cA 0, 40, .inl (fun _ => 0))), (a72, .inl (cA 0, 40, .inl (fun _ => 0)))] 5 a64 40 (fun _ => 0) (-1 : Int32) rfl (by decide)) mc7_fill_53178 ml_5_47 mt7_fill_53178 mI_A (n := 2) (by decide) rfl ⟨Nat.le_of_ble_eq_true rfl, Nat.le_of_ble_eq_true rfl⟩ ⟨Nat.le_of_ble_eq_true rfl, Nat.le_of_ble_eq_true rfl⟩ hl.1 rfl (Nat.le_of_ble_eq_true rfl) d5_init_82 (fun g82 H locs px82 hH => ?_)
  have hH : cx_H D B0 s (pre ++ [(q, .inr (5, [.int (0 : Int32), .int (0 : Int32), .int (0 : Int32), .int (0 : Int32), .int (0 : Int32), .ref a32, .ref a40, .ref a48, .ref a56, .ref a64, .ref a72])), (a32, .inl (cA 0, 10, .inl (fun _ => 0))), (a40, .inl (cA 2, 10, .inl (fun _ => 0))), (a48, .inl (cA 0, 10, .inl (fun _ => 0))), (a56, .inl (cA 0, 10, .inl (fun _ => 0))), (a64, .inl (cA 0, 40, .inl g82)), (a72, .inl (cA 0, 40, .inl (fun _ => 0)))]) H locs := hH
  exact cx_ret C (ce_sok aK aV B0) (a32, a40, a48, a56, a64, a72, g82) px82 hH d5_init_85
abbrev b9_init : ByteArray := prog_11_method_1_code
def y9_init : MethodName := ⟨cn_9, "<init>", "()V"⟩
theorem d9_init_0 : decode b9_init 0 = .ok (.aload_n 0, 1) := by decide +kernel
theorem d9_init_1 : decode b9_init 1 = .ok (.invokespecial 3, 3) := by decide +kernel
theorem d9_init_4 : decode b9_init 4 = .ok (.aload_n 0, 1) := by decide +kernel
theorem d9_init_5 : decode b9_init 5 = .ok (.iconst 0, 1) := by decide +kernel
theorem d9_init_6 : decode b9_init 6 = .ok (.putfield 9, 3) := by decide +kernel
theorem d9_init_9 : decode b9_init 9 = .ok (.aload_n 0, 1) := by decide +kernel
theorem d9_init_10 : decode b9_init 10 = .ok (.bipush 12, 2) := by decide +kernel
theorem d9_init_12 : decode b9_init 12 = .ok (.newarray .int, 2) := by decide +kernel
theorem d9_init_14 : decode b9_init 14 = .ok (.putfield 15, 3) := by decide +kernel
theorem d9_init_17 : decode b9_init 17 = .ok (.aload_n 0, 1) := by decide +kernel
theorem d9_init_18 : decode b9_init 18 = .ok (.bipush 12, 2) := by decide +kernel
theorem d9_init_20 : decode b9_init 20 = .ok (.newarray .int, 2) := by decide +kernel
theorem d9_init_22 : decode b9_init 22 = .ok (.putfield 19, 3) := by decide +kernel
theorem d9_init_25 : decode b9_init 25 = .ok (.aload_n 0, 1) := by decide +kernel
theorem d9_init_26 : decode b9_init 26 = .ok (.bipush 12, 2) := by decide +kernel
theorem d9_init_28 : decode b9_init 28 = .ok (.newarray .int, 2) := by decide +kernel
theorem d9_init_30 : decode b9_init 30 = .ok (.putfield 22, 3) := by decide +kernel
theorem d9_init_33 : decode b9_init 33 = .ok (.aload_n 0, 1) := by decide +kernel
theorem d9_init_34 : decode b9_init 34 = .ok (.bipush 12, 2) := by decide +kernel
theorem d9_init_36 : decode b9_init 36 = .ok (.newarray .int, 2) := by decide +kernel
theorem d9_init_38 : decode b9_init 38 = .ok (.putfield 25, 3) := by decide +kernel
theorem d9_init_41 : decode b9_init 41 = .ok (.aload_n 0, 1) := by decide +kernel
theorem d9_init_42 : decode b9_init 42 = .ok (.bipush 48, 2) := by decide +kernel
theorem d9_init_44 : decode b9_init 44 = .ok (.newarray .int, 2) := by decide +kernel
theorem d9_init_46 : decode b9_init 46 = .ok (.putfield 28, 3) := by decide +kernel
theorem d9_init_49 : decode b9_init 49 = .ok (.aload_n 0, 1) := by decide +kernel
theorem d9_init_50 : decode b9_init 50 = .ok (.bipush 12, 2) := by decide +kernel
theorem d9_init_52 : decode b9_init 52 = .ok (.newarray .int, 2) := by decide +kernel
theorem d9_init_54 : decode b9_init 54 = .ok (.putfield 31, 3) := by decide +kernel
theorem d9_init_57 : decode b9_init 57 = .ok (.aload_n 0, 1) := by decide +kernel
theorem d9_init_58 : decode b9_init 58 = .ok (.iconst 0, 1) := by decide +kernel
theorem d9_init_59 : decode b9_init 59 = .ok (.putfield 34, 3) := by decide +kernel
theorem d9_init_62 : decode b9_init 62 = .ok (.aload_n 0, 1) := by decide +kernel
theorem d9_init_63 : decode b9_init 63 = .ok (.iconst 0, 1) := by decide +kernel
theorem d9_init_64 : decode b9_init 64 = .ok (.putfield 37, 3) := by decide +kernel
theorem d9_init_67 : decode b9_init 67 = .ok (.return_, 1) := by decide +kernel
def cz_9 (cA : Nat → ClassId) (q : Nat) (x : Nat × Nat × Nat × Nat × Nat × Nat) : va_W := [(q, .inr (9, [.int (0 : Int32), .ref x.1, .ref x.2.1, .ref x.2.2.1, .ref x.2.2.2.1, .ref x.2.2.2.2.1, .ref x.2.2.2.2.2, .int (0 : Int32), .int (0 : Int32)])), (x.1, .inl (cA 0, 12, .inl (fun _ => 0))), (x.2.1, .inl (cA 0, 12, .inl (fun _ => 0))), (x.2.2.1, .inl (cA 0, 12, .inl (fun _ => 0))), (x.2.2.2.1, .inl (cA 0, 12, .inl (fun _ => 0))), (x.2.2.2.2.1, .inl (cA 0, 48, .inl (fun _ => 0))), (x.2.2.2.2.2, .inl (cA 0, 12, .inl (fun _ => 0)))]
theorem mo_9 : Cond.methodLink cn_9 3 Lib.objectInit ∈ ce_cm := ce_cm_of (List.mem_of_getElem? (i := 269) (by decide +kernel)) (by decide +kernel)
set_option maxRecDepth 20000 in
set_option maxHeartbeats 4000000 in
theorem ci_9 (l : Launch) (D : va_G) (cA : Nat → ClassId) (aK aV : Nat → Nat) (B0 : Nat) (pre : va_W) (q : Nat) : cx_Ct l D cA B0 (ce_St aK aV B0) y9_init b9_init 1 1 12 6 108 [.ref q] (pre ++ [(q, .inr (9, [.int 0, .null, .null, .null, .null, .null, .null, .int 0, .int 0]))]) (fun (_ : Nat × Nat × Nat × Nat × Nat × Nat) => True) (fun x => pre ++ cz_9 cA q x) := by
  refine cx_enter (by decide) rfl rfl (Nat.le_of_ble_eq_true rfl) (fun p e0 s m below meth c ls C hH hl => ?_)
  have hl : lv_has ls 1 [(0, .ref q)] := hl
  have hx := C.1
  have hb := C.2.1
  refine lv_aload_n hx hb d9_init_0 rfl (lv_at hl 0 rfl) ?_
  refine cx_obj C mo_9 mI_obj mC_obj hl.1 d9_init_1 (Nat.le_of_ble_eq_true rfl) (Nat.le_of_ble_eq_true rfl) ?_
  refine lv_aload_n hx hb d9_init_4 rfl (lv_at hl 0 rfl) ?_
  refine lv_iconst (v := (0 : Int32)) hx hb d9_init_5 (by decide) ?_
  refine cx_put C hH (i := 0) (ci := 9) (j := 0) (N := 9) (fy := fy_9) (v := .int (0 : Int32)) rfl rfl fw_9 fo_9 fn_9 (by decide) fl_9_9 rfl rfl rfl (by decide) d9_init_6 (fun H locs hH => ?_)
  have hH : cx_H D B0 s (pre ++ [(q, .inr (9, [.int (0 : Int32), .null, .null, .null, .null, .null, .null, .int 0, .int 0]))]) H locs := hH
  refine lv_aload_n hx hb d9_init_9 rfl (lv_at hl 0 rfl) ?_
  refine lv_bipush (v := (12 : Int32)) hx hb d9_init_10 (by decide) ?_
  refine cx_newa C hH .int 0 (ty := .int) rfl rfl mA_0 (fun _ => rfl) rfl (N := 12) (by decide) (by decide) (by decide) (Nat.le_of_ble_eq_true rfl) (Nat.le_of_ble_eq_true rfl) d9_init_12 (fun a12 H hH => ?_)
  have hH : cx_H D B0 s (pre ++ [(q, .inr (9, [.int (0 : Int32), .null, .null, .null, .null, .null, .null, .int 0, .int 0])), (a12, .inl (cA 0, 12, .inl (fun _ => 0)))]) H locs := hH
  refine cx_put C hH (i := 0) (ci := 9) (j := 1) (N := 9) (fy := fy_9) (v := .ref a12) rfl rfl fw_9 fo_9 fn_9 (by decide) fl_9_15 rfl rfl rfl (by decide) d9_init_14 (fun H locs hH => ?_)
  have hH : cx_H D B0 s (pre ++ [(q, .inr (9, [.int (0 : Int32), .ref a12, .null, .null, .null, .null, .null, .int 0, .int 0])), (a12, .inl (cA 0, 12, .inl (fun _ => 0)))]) H locs := hH
  refine lv_aload_n hx hb d9_init_17 rfl (lv_at hl 0 rfl) ?_
  refine lv_bipush (v := (12 : Int32)) hx hb d9_init_18 (by decide) ?_
  refine cx_newa C hH .int 0 (ty := .int) rfl rfl mA_0 (fun _ => rfl) rfl (N := 12) (by decide) (by decide) (by decide) (Nat.le_of_ble_eq_true rfl) (Nat.le_of_ble_eq_true rfl) d9_init_20 (fun a20 H hH => ?_)
  have hH : cx_H D B0 s (pre ++ [(q, .inr (9, [.int (0 : Int32), .ref a12, .null, .null, .null, .null, .null, .int 0, .int 0])), (a12, .inl (cA 0, 12, .inl (fun _ => 0))), (a20, .inl (cA 0, 12, .inl (fun _ => 0)))]) H locs := hH
  refine cx_put C hH (i := 0) (ci := 9) (j := 2) (N := 9) (fy := fy_9) (v := .ref a20) rfl rfl fw_9 fo_9 fn_9 (by decide) fl_9_19 rfl rfl rfl (by decide) d9_init_22 (fun H locs hH => ?_)
  have hH : cx_H D B0 s (pre ++ [(q, .inr (9, [.int (0 : Int32), .ref a12, .ref a20, .null, .null, .null, .null, .int 0, .int 0])), (a12, .inl (cA 0, 12, .inl (fun _ => 0))), (a20, .inl (cA 0, 12, .inl (fun _ => 0)))]) H locs := hH
  refine lv_aload_n hx hb d9_init_25 rfl (lv_at hl 0 rfl) ?_
  refine lv_bipush (v := (12 : Int32)) hx hb d9_init_26 (by decide) ?_
  refine cx_newa C hH .int 0 (ty := .int) rfl rfl mA_0 (fun _ => rfl) rfl (N := 12) (by decide) (by decide) (by decide) (Nat.le_of_ble_eq_true rfl) (Nat.le_of_ble_eq_true rfl) d9_init_28 (fun a28 H hH => ?_)
  have hH : cx_H D B0 s (pre ++ [(q, .inr (9, [.int (0 : Int32), .ref a12, .ref a20, .null, .null, .null, .null, .int 0, .int 0])), (a12, .inl (cA 0, 12, .inl (fun _ => 0))), (a20, .inl (cA 0, 12, .inl (fun _ => 0))), (a28, .inl (cA 0, 12, .inl (fun _ => 0)))]) H locs := hH
  refine cx_put C hH (i := 0) (ci := 9) (j := 3) (N := 9) (fy := fy_9) (v := .ref a28) rfl rfl fw_9 fo_9 fn_9 (by decide) fl_9_22 rfl rfl rfl (by decide) d9_init_30 (fun H locs hH => ?_)
  have hH : cx_H D B0 s (pre ++ [(q, .inr (9, [.int (0 : Int32), .ref a12, .ref a20, .ref a28, .null, .null, .null, .int 0, .int 0])), (a12, .inl (cA 0, 12, .inl (fun _ => 0))), (a20, .inl (cA 0, 12, .inl (fun _ => 0))), (a28, .inl (cA 0, 12, .inl (fun _ => 0)))]) H locs := hH
  refine lv_aload_n hx hb d9_init_33 rfl (lv_at hl 0 rfl) ?_
  refine lv_bipush (v := (12 : Int32)) hx hb d9_init_34 (by decide) ?_
  refine cx_newa C hH .int 0 (ty := .int) rfl rfl mA_0 (fun _ => rfl) rfl (N := 12) (by decide) (by decide) (by decide) (Nat.le_of_ble_eq_true rfl) (Nat.le_of_ble_eq_true rfl) d9_init_36 (fun a36 H hH => ?_)
  have hH : cx_H D B0 s (pre ++ [(q, .inr (9, [.int (0 : Int32), .ref a12, .ref a20, .ref a28, .null, .null, .null, .int 0, .int 0])), (a12, .inl (cA 0, 12, .inl (fun _ => 0))), (a20, .inl (cA 0, 12, .inl (fun _ => 0))), (a28, .inl (cA 0, 12, .inl (fun _ => 0))), (a36, .inl (cA 0, 12, .inl (fun _ => 0)))]) H locs := hH
  refine cx_put C hH (i := 0) (ci := 9) (j := 4) (N := 9) (fy := fy_9) (v := .ref a36) rfl rfl fw_9 fo_9 fn_9 (by decide) fl_9_25 rfl rfl rfl (by decide) d9_init_38 (fun H locs hH => ?_)
  have hH : cx_H D B0 s (pre ++ [(q, .inr (9, [.int (0 : Int32), .ref a12, .ref a20, .ref a28, .ref a36, .null, .null, .int 0, .int 0])), (a12, .inl (cA 0, 12, .inl (fun _ => 0))), (a20, .inl (cA 0, 12, .inl (fun _ => 0))), (a28, .inl (cA 0, 12, .inl (fun _ => 0))), (a36, .inl (cA 0, 12, .inl (fun _ => 0)))]) H locs := hH
  refine lv_aload_n hx hb d9_init_41 rfl (lv_at hl 0 rfl) ?_
  refine lv_bipush (v := (48 : Int32)) hx hb d9_init_42 (by decide) ?_
  refine cx_newa C hH .int 0 (ty := .int) rfl rfl mA_0 (fun _ => rfl) rfl (N := 48) (by decide) (by decide) (by decide) (Nat.le_of_ble_eq_true rfl) (Nat.le_of_ble_eq_true rfl) d9_init_44 (fun a44 H hH => ?_)
  have hH : cx_H D B0 s (pre ++ [(q, .inr (9, [.int (0 : Int32), .ref a12, .ref a20, .ref a28, .ref a36, .null, .null, .int 0, .int 0])), (a12, .inl (cA 0, 12, .inl (fun _ => 0))), (a20, .inl (cA 0, 12, .inl (fun _ => 0))), (a28, .inl (cA 0, 12, .inl (fun _ => 0))), (a36, .inl (cA 0, 12, .inl (fun _ => 0))), (a44, .inl (cA 0, 48, .inl (fun _ => 0)))]) H locs := hH
  refine cx_put C hH (i := 0) (ci := 9) (j := 5) (N := 9) (fy := fy_9) (v := .ref a44) rfl rfl fw_9 fo_9 fn_9 (by decide) fl_9_28 rfl rfl rfl (by decide) d9_init_46 (fun H locs hH => ?_)
  have hH : cx_H D B0 s (pre ++ [(q, .inr (9, [.int (0 : Int32), .ref a12, .ref a20, .ref a28, .ref a36, .ref a44, .null, .int 0, .int 0])), (a12, .inl (cA 0, 12, .inl (fun _ => 0))), (a20, .inl (cA 0, 12, .inl (fun _ => 0))), (a28, .inl (cA 0, 12, .inl (fun _ => 0))), (a36, .inl (cA 0, 12, .inl (fun _ => 0))), (a44, .inl (cA 0, 48, .inl (fun _ => 0)))]) H locs := hH
  refine lv_aload_n hx hb d9_init_49 rfl (lv_at hl 0 rfl) ?_
  refine lv_bipush (v := (12 : Int32)) hx hb d9_init_50 (by decide) ?_
  refine cx_newa C hH .int 0 (ty := .int) rfl rfl mA_0 (fun _ => rfl) rfl (N := 12) (by decide) (by decide) (by decide) (Nat.le_of_ble_eq_true rfl) (Nat.le_of_ble_eq_true rfl) d9_init_52 (fun a52 H hH => ?_)
  have hH : cx_H D B0 s (pre ++ [(q, .inr (9, [.int (0 : Int32), .ref a12, .ref a20, .ref a28, .ref a36, .ref a44, .null, .int 0, .int 0])), (a12, .inl (cA 0, 12, .inl (fun _ => 0))), (a20, .inl (cA 0, 12, .inl (fun _ => 0))), (a28, .inl (cA 0, 12, .inl (fun _ => 0))), (a36, .inl (cA 0, 12, .inl (fun _ => 0))), (a44, .inl (cA 0, 48, .inl (fun _ => 0))), (a52, .inl (cA 0, 12, .inl (fun _ => 0)))]) H locs := hH
  refine cx_put C hH (i := 0) (ci := 9) (j := 6) (N := 9) (fy := fy_9) (v := .ref a52) rfl rfl fw_9 fo_9 fn_9 (by decide) fl_9_31 rfl rfl rfl (by decide) d9_init_54 (fun H locs hH => ?_)
  have hH : cx_H D B0 s (pre ++ [(q, .inr (9, [.int (0 : Int32), .ref a12, .ref a20, .ref a28, .ref a36, .ref a44, .ref a52, .int 0, .int 0])), (a12, .inl (cA 0, 12, .inl (fun _ => 0))), (a20, .inl (cA 0, 12, .inl (fun _ => 0))), (a28, .inl (cA 0, 12, .inl (fun _ => 0))), (a36, .inl (cA 0, 12, .inl (fun _ => 0))), (a44, .inl (cA 0, 48, .inl (fun _ => 0))), (a52, .inl (cA 0, 12, .inl (fun _ => 0)))]) H locs := hH
  refine lv_aload_n hx hb d9_init_57 rfl (lv_at hl 0 rfl) ?_
  refine lv_iconst (v := (0 : Int32)) hx hb d9_init_58 (by decide) ?_
  refine cx_put C hH (i := 0) (ci := 9) (j := 7) (N := 9) (fy := fy_9) (v := .int (0 : Int32)) rfl rfl fw_9 fo_9 fn_9 (by decide) fl_9_34 rfl rfl rfl (by decide) d9_init_59 (fun H locs hH => ?_)
  have hH : cx_H D B0 s (pre ++ [(q, .inr (9, [.int (0 : Int32), .ref a12, .ref a20, .ref a28, .ref a36, .ref a44, .ref a52, .int (0 : Int32), .int 0])), (a12, .inl (cA 0, 12, .inl (fun _ => 0))), (a20, .inl (cA 0, 12, .inl (fun _ => 0))), (a28, .inl (cA 0, 12, .inl (fun _ => 0))), (a36, .inl (cA 0, 12, .inl (fun _ => 0))), (a44, .inl (cA 0, 48, .inl (fun _ => 0))), (a52, .inl (cA 0, 12, .inl (fun _ => 0)))]) H locs := hH
  refine lv_aload_n hx hb d9_init_62 rfl (lv_at hl 0 rfl) ?_
  refine lv_iconst (v := (0 : Int32)) hx hb d9_init_63 (by decide) ?_
  refine cx_put C hH (i := 0) (ci := 9) (j := 8) (N := 9) (fy := fy_9) (v := .int (0 : Int32)) rfl rfl fw_9 fo_9 fn_9 (by decide) fl_9_37 rfl rfl rfl (by decide) d9_init_64 (fun H locs hH => ?_)
  have hH : cx_H D B0 s (pre ++ [(q, .inr (9, [.int (0 : Int32), .ref a12, .ref a20, .ref a28, .ref a36, .ref a44, .ref a52, .int (0 : Int32), .int (0 : Int32)])), (a12, .inl (cA 0, 12, .inl (fun _ => 0))), (a20, .inl (cA 0, 12, .inl (fun _ => 0))), (a28, .inl (cA 0, 12, .inl (fun _ => 0))), (a36, .inl (cA 0, 12, .inl (fun _ => 0))), (a44, .inl (cA 0, 48, .inl (fun _ => 0))), (a52, .inl (cA 0, 12, .inl (fun _ => 0)))]) H locs := hH
  exact cx_ret C (ce_sok aK aV B0) (a12, a20, a28, a36, a44, a52) trivial hH d9_init_67
abbrev b0_init : ByteArray := prog_2_method_1_code
def y0_init : MethodName := ⟨cn_0, "<init>", "()V"⟩
theorem d0_init_0 : decode b0_init 0 = .ok (.aload_n 0, 1) := by decide +kernel
theorem d0_init_1 : decode b0_init 1 = .ok (.invokespecial 3, 3) := by decide +kernel
theorem d0_init_4 : decode b0_init 4 = .ok (.aload_n 0, 1) := by decide +kernel
theorem d0_init_5 : decode b0_init 5 = .ok (.iconst 0, 1) := by decide +kernel
theorem d0_init_6 : decode b0_init 6 = .ok (.putfield 9, 3) := by decide +kernel
theorem d0_init_9 : decode b0_init 9 = .ok (.aload_n 0, 1) := by decide +kernel
theorem d0_init_10 : decode b0_init 10 = .ok (.bipush 20, 2) := by decide +kernel
theorem d0_init_12 : decode b0_init 12 = .ok (.newarray .int, 2) := by decide +kernel
theorem d0_init_14 : decode b0_init 14 = .ok (.putfield 15, 3) := by decide +kernel
theorem d0_init_17 : decode b0_init 17 = .ok (.aload_n 0, 1) := by decide +kernel
theorem d0_init_18 : decode b0_init 18 = .ok (.bipush 20, 2) := by decide +kernel
theorem d0_init_20 : decode b0_init 20 = .ok (.newarray .int, 2) := by decide +kernel
theorem d0_init_22 : decode b0_init 22 = .ok (.putfield 19, 3) := by decide +kernel
theorem d0_init_25 : decode b0_init 25 = .ok (.aload_n 0, 1) := by decide +kernel
theorem d0_init_26 : decode b0_init 26 = .ok (.bipush 20, 2) := by decide +kernel
theorem d0_init_28 : decode b0_init 28 = .ok (.newarray .int, 2) := by decide +kernel
theorem d0_init_30 : decode b0_init 30 = .ok (.putfield 22, 3) := by decide +kernel
theorem d0_init_33 : decode b0_init 33 = .ok (.aload_n 0, 1) := by decide +kernel
theorem d0_init_34 : decode b0_init 34 = .ok (.bipush 20, 2) := by decide +kernel
theorem d0_init_36 : decode b0_init 36 = .ok (.newarray .int, 2) := by decide +kernel
theorem d0_init_38 : decode b0_init 38 = .ok (.putfield 25, 3) := by decide +kernel
theorem d0_init_41 : decode b0_init 41 = .ok (.return_, 1) := by decide +kernel
def cz_0 (cA : Nat → ClassId) (q : Nat) (x : Nat × Nat × Nat × Nat) : va_W := [(q, .inr (0, [.int (0 : Int32), .ref x.1, .ref x.2.1, .ref x.2.2.1, .ref x.2.2.2])), (x.1, .inl (cA 0, 20, .inl (fun _ => 0))), (x.2.1, .inl (cA 0, 20, .inl (fun _ => 0))), (x.2.2.1, .inl (cA 0, 20, .inl (fun _ => 0))), (x.2.2.2, .inl (cA 0, 20, .inl (fun _ => 0)))]
theorem mo_0 : Cond.methodLink cn_0 3 Lib.objectInit ∈ ce_cm := ce_cm_of (List.mem_of_getElem? (i := 307) (by decide +kernel)) (by decide +kernel)
set_option maxRecDepth 20000 in
set_option maxHeartbeats 4000000 in
theorem ci_0 (l : Launch) (D : va_G) (cA : Nat → ClassId) (aK aV : Nat → Nat) (B0 : Nat) (pre : va_W) (q : Nat) : cx_Ct l D cA B0 (ce_St aK aV B0) y0_init b0_init 1 1 12 4 80 [.ref q] (pre ++ [(q, .inr (0, [.int 0, .null, .null, .null, .null]))]) (fun (_ : Nat × Nat × Nat × Nat) => True) (fun x => pre ++ cz_0 cA q x) := by
  refine cx_enter (by decide) rfl rfl (Nat.le_of_ble_eq_true rfl) (fun p e0 s m below meth c ls C hH hl => ?_)
  have hl : lv_has ls 1 [(0, .ref q)] := hl
  have hx := C.1
  have hb := C.2.1
  refine lv_aload_n hx hb d0_init_0 rfl (lv_at hl 0 rfl) ?_
  refine cx_obj C mo_0 mI_obj mC_obj hl.1 d0_init_1 (Nat.le_of_ble_eq_true rfl) (Nat.le_of_ble_eq_true rfl) ?_
  refine lv_aload_n hx hb d0_init_4 rfl (lv_at hl 0 rfl) ?_
  refine lv_iconst (v := (0 : Int32)) hx hb d0_init_5 (by decide) ?_
  refine cx_put C hH (i := 0) (ci := 0) (j := 0) (N := 5) (fy := fy_0) (v := .int (0 : Int32)) rfl rfl fw_0 fo_0 fn_0 (by decide) fl_0_9 rfl rfl rfl (by decide) d0_init_6 (fun H locs hH => ?_)
  have hH : cx_H D B0 s (pre ++ [(q, .inr (0, [.int (0 : Int32), .null, .null, .null, .null]))]) H locs := hH
  refine lv_aload_n hx hb d0_init_9 rfl (lv_at hl 0 rfl) ?_
  refine lv_bipush (v := (20 : Int32)) hx hb d0_init_10 (by decide) ?_
  refine cx_newa C hH .int 0 (ty := .int) rfl rfl mA_0 (fun _ => rfl) rfl (N := 20) (by decide) (by decide) (by decide) (Nat.le_of_ble_eq_true rfl) (Nat.le_of_ble_eq_true rfl) d0_init_12 (fun a12 H hH => ?_)
  have hH : cx_H D B0 s (pre ++ [(q, .inr (0, [.int (0 : Int32), .null, .null, .null, .null])), (a12, .inl (cA 0, 20, .inl (fun _ => 0)))]) H locs := hH
  refine cx_put C hH (i := 0) (ci := 0) (j := 1) (N := 5) (fy := fy_0) (v := .ref a12) rfl rfl fw_0 fo_0 fn_0 (by decide) fl_0_15 rfl rfl rfl (by decide) d0_init_14 (fun H locs hH => ?_)
  have hH : cx_H D B0 s (pre ++ [(q, .inr (0, [.int (0 : Int32), .ref a12, .null, .null, .null])), (a12, .inl (cA 0, 20, .inl (fun _ => 0)))]) H locs := hH
  refine lv_aload_n hx hb d0_init_17 rfl (lv_at hl 0 rfl) ?_
  refine lv_bipush (v := (20 : Int32)) hx hb d0_init_18 (by decide) ?_
  refine cx_newa C hH .int 0 (ty := .int) rfl rfl mA_0 (fun _ => rfl) rfl (N := 20) (by decide) (by decide) (by decide) (Nat.le_of_ble_eq_true rfl) (Nat.le_of_ble_eq_true rfl) d0_init_20 (fun a20 H hH => ?_)
  have hH : cx_H D B0 s (pre ++ [(q, .inr (0, [.int (0 : Int32), .ref a12, .null, .null, .null])), (a12, .inl (cA 0, 20, .inl (fun _ => 0))), (a20, .inl (cA 0, 20, .inl (fun _ => 0)))]) H locs := hH
  refine cx_put C hH (i := 0) (ci := 0) (j := 2) (N := 5) (fy := fy_0) (v := .ref a20) rfl rfl fw_0 fo_0 fn_0 (by decide) fl_0_19 rfl rfl rfl (by decide) d0_init_22 (fun H locs hH => ?_)
  have hH : cx_H D B0 s (pre ++ [(q, .inr (0, [.int (0 : Int32), .ref a12, .ref a20, .null, .null])), (a12, .inl (cA 0, 20, .inl (fun _ => 0))), (a20, .inl (cA 0, 20, .inl (fun _ => 0)))]) H locs := hH
  refine lv_aload_n hx hb d0_init_25 rfl (lv_at hl 0 rfl) ?_
  refine lv_bipush (v := (20 : Int32)) hx hb d0_init_26 (by decide) ?_
  refine cx_newa C hH .int 0 (ty := .int) rfl rfl mA_0 (fun _ => rfl) rfl (N := 20) (by decide) (by decide) (by decide) (Nat.le_of_ble_eq_true rfl) (Nat.le_of_ble_eq_true rfl) d0_init_28 (fun a28 H hH => ?_)
  have hH : cx_H D B0 s (pre ++ [(q, .inr (0, [.int (0 : Int32), .ref a12, .ref a20, .null, .null])), (a12, .inl (cA 0, 20, .inl (fun _ => 0))), (a20, .inl (cA 0, 20, .inl (fun _ => 0))), (a28, .inl (cA 0, 20, .inl (fun _ => 0)))]) H locs := hH
  refine cx_put C hH (i := 0) (ci := 0) (j := 3) (N := 5) (fy := fy_0) (v := .ref a28) rfl rfl fw_0 fo_0 fn_0 (by decide) fl_0_22 rfl rfl rfl (by decide) d0_init_30 (fun H locs hH => ?_)
  have hH : cx_H D B0 s (pre ++ [(q, .inr (0, [.int (0 : Int32), .ref a12, .ref a20, .ref a28, .null])), (a12, .inl (cA 0, 20, .inl (fun _ => 0))), (a20, .inl (cA 0, 20, .inl (fun _ => 0))), (a28, .inl (cA 0, 20, .inl (fun _ => 0)))]) H locs := hH
  refine lv_aload_n hx hb d0_init_33 rfl (lv_at hl 0 rfl) ?_
  refine lv_bipush (v := (20 : Int32)) hx hb d0_init_34 (by decide) ?_
  refine cx_newa C hH .int 0 (ty := .int) rfl rfl mA_0 (fun _ => rfl) rfl (N := 20) (by decide) (by decide) (by decide) (Nat.le_of_ble_eq_true rfl) (Nat.le_of_ble_eq_true rfl) d0_init_36 (fun a36 H hH => ?_)
  have hH : cx_H D B0 s (pre ++ [(q, .inr (0, [.int (0 : Int32), .ref a12, .ref a20, .ref a28, .null])), (a12, .inl (cA 0, 20, .inl (fun _ => 0))), (a20, .inl (cA 0, 20, .inl (fun _ => 0))), (a28, .inl (cA 0, 20, .inl (fun _ => 0))), (a36, .inl (cA 0, 20, .inl (fun _ => 0)))]) H locs := hH
  refine cx_put C hH (i := 0) (ci := 0) (j := 4) (N := 5) (fy := fy_0) (v := .ref a36) rfl rfl fw_0 fo_0 fn_0 (by decide) fl_0_25 rfl rfl rfl (by decide) d0_init_38 (fun H locs hH => ?_)
  have hH : cx_H D B0 s (pre ++ [(q, .inr (0, [.int (0 : Int32), .ref a12, .ref a20, .ref a28, .ref a36])), (a12, .inl (cA 0, 20, .inl (fun _ => 0))), (a20, .inl (cA 0, 20, .inl (fun _ => 0))), (a28, .inl (cA 0, 20, .inl (fun _ => 0))), (a36, .inl (cA 0, 20, .inl (fun _ => 0)))]) H locs := hH
  exact cx_ret C (ce_sok aK aV B0) (a12, a20, a28, a36) trivial hH d0_init_41
abbrev b10_init : ByteArray := prog_12_method_1_code
def y10_init : MethodName := ⟨cn_10, "<init>", "()V"⟩
theorem d10_init_0 : decode b10_init 0 = .ok (.aload_n 0, 1) := by decide +kernel
theorem d10_init_1 : decode b10_init 1 = .ok (.invokespecial 3, 3) := by decide +kernel
theorem d10_init_4 : decode b10_init 4 = .ok (.aload_n 0, 1) := by decide +kernel
theorem d10_init_5 : decode b10_init 5 = .ok (.iconst 0, 1) := by decide +kernel
theorem d10_init_6 : decode b10_init 6 = .ok (.putfield 9, 3) := by decide +kernel
theorem d10_init_9 : decode b10_init 9 = .ok (.aload_n 0, 1) := by decide +kernel
theorem d10_init_10 : decode b10_init 10 = .ok (.bipush 10, 2) := by decide +kernel
theorem d10_init_12 : decode b10_init 12 = .ok (.newarray .int, 2) := by decide +kernel
theorem d10_init_14 : decode b10_init 14 = .ok (.putfield 15, 3) := by decide +kernel
theorem d10_init_17 : decode b10_init 17 = .ok (.aload_n 0, 1) := by decide +kernel
theorem d10_init_18 : decode b10_init 18 = .ok (.bipush 10, 2) := by decide +kernel
theorem d10_init_20 : decode b10_init 20 = .ok (.newarray .int, 2) := by decide +kernel
theorem d10_init_22 : decode b10_init 22 = .ok (.putfield 19, 3) := by decide +kernel
theorem d10_init_25 : decode b10_init 25 = .ok (.aload_n 0, 1) := by decide +kernel
theorem d10_init_26 : decode b10_init 26 = .ok (.bipush 10, 2) := by decide +kernel
theorem d10_init_28 : decode b10_init 28 = .ok (.newarray .int, 2) := by decide +kernel
theorem d10_init_30 : decode b10_init 30 = .ok (.putfield 22, 3) := by decide +kernel
theorem d10_init_33 : decode b10_init 33 = .ok (.return_, 1) := by decide +kernel
def cz_10 (cA : Nat → ClassId) (q : Nat) (x : Nat × Nat × Nat) : va_W := [(q, .inr (10, [.int (0 : Int32), .ref x.1, .ref x.2.1, .ref x.2.2])), (x.1, .inl (cA 0, 10, .inl (fun _ => 0))), (x.2.1, .inl (cA 0, 10, .inl (fun _ => 0))), (x.2.2, .inl (cA 0, 10, .inl (fun _ => 0)))]
theorem mo_10 : Cond.methodLink cn_10 3 Lib.objectInit ∈ ce_cm := ce_cm_of (List.mem_of_getElem? (i := 330) (by decide +kernel)) (by decide +kernel)
set_option maxRecDepth 20000 in
set_option maxHeartbeats 4000000 in
theorem ci_10 (l : Launch) (D : va_G) (cA : Nat → ClassId) (aK aV : Nat → Nat) (B0 : Nat) (pre : va_W) (q : Nat) : cx_Ct l D cA B0 (ce_St aK aV B0) y10_init b10_init 1 1 12 3 30 [.ref q] (pre ++ [(q, .inr (10, [.int 0, .null, .null, .null]))]) (fun (_ : Nat × Nat × Nat) => True) (fun x => pre ++ cz_10 cA q x) := by
  refine cx_enter (by decide) rfl rfl (Nat.le_of_ble_eq_true rfl) (fun p e0 s m below meth c ls C hH hl => ?_)
  have hl : lv_has ls 1 [(0, .ref q)] := hl
  have hx := C.1
  have hb := C.2.1
  refine lv_aload_n hx hb d10_init_0 rfl (lv_at hl 0 rfl) ?_
  refine cx_obj C mo_10 mI_obj mC_obj hl.1 d10_init_1 (Nat.le_of_ble_eq_true rfl) (Nat.le_of_ble_eq_true rfl) ?_
  refine lv_aload_n hx hb d10_init_4 rfl (lv_at hl 0 rfl) ?_
  refine lv_iconst (v := (0 : Int32)) hx hb d10_init_5 (by decide) ?_
  refine cx_put C hH (i := 0) (ci := 10) (j := 0) (N := 4) (fy := fy_10) (v := .int (0 : Int32)) rfl rfl fw_10 fo_10 fn_10 (by decide) fl_10_9 rfl rfl rfl (by decide) d10_init_6 (fun H locs hH => ?_)
  have hH : cx_H D B0 s (pre ++ [(q, .inr (10, [.int (0 : Int32), .null, .null, .null]))]) H locs := hH
  refine lv_aload_n hx hb d10_init_9 rfl (lv_at hl 0 rfl) ?_
  refine lv_bipush (v := (10 : Int32)) hx hb d10_init_10 (by decide) ?_
  refine cx_newa C hH .int 0 (ty := .int) rfl rfl mA_0 (fun _ => rfl) rfl (N := 10) (by decide) (by decide) (by decide) (Nat.le_of_ble_eq_true rfl) (Nat.le_of_ble_eq_true rfl) d10_init_12 (fun a12 H hH => ?_)
  have hH : cx_H D B0 s (pre ++ [(q, .inr (10, [.int (0 : Int32), .null, .null, .null])), (a12, .inl (cA 0, 10, .inl (fun _ => 0)))]) H locs := hH
  refine cx_put C hH (i := 0) (ci := 10) (j := 1) (N := 4) (fy := fy_10) (v := .ref a12) rfl rfl fw_10 fo_10 fn_10 (by decide) fl_10_15 rfl rfl rfl (by decide) d10_init_14 (fun H locs hH => ?_)
  have hH : cx_H D B0 s (pre ++ [(q, .inr (10, [.int (0 : Int32), .ref a12, .null, .null])), (a12, .inl (cA 0, 10, .inl (fun _ => 0)))]) H locs := hH
  refine lv_aload_n hx hb d10_init_17 rfl (lv_at hl 0 rfl) ?_
  refine lv_bipush (v := (10 : Int32)) hx hb d10_init_18 (by decide) ?_
  refine cx_newa C hH .int 0 (ty := .int) rfl rfl mA_0 (fun _ => rfl) rfl (N := 10) (by decide) (by decide) (by decide) (Nat.le_of_ble_eq_true rfl) (Nat.le_of_ble_eq_true rfl) d10_init_20 (fun a20 H hH => ?_)
  have hH : cx_H D B0 s (pre ++ [(q, .inr (10, [.int (0 : Int32), .ref a12, .null, .null])), (a12, .inl (cA 0, 10, .inl (fun _ => 0))), (a20, .inl (cA 0, 10, .inl (fun _ => 0)))]) H locs := hH
  refine cx_put C hH (i := 0) (ci := 10) (j := 2) (N := 4) (fy := fy_10) (v := .ref a20) rfl rfl fw_10 fo_10 fn_10 (by decide) fl_10_19 rfl rfl rfl (by decide) d10_init_22 (fun H locs hH => ?_)
  have hH : cx_H D B0 s (pre ++ [(q, .inr (10, [.int (0 : Int32), .ref a12, .ref a20, .null])), (a12, .inl (cA 0, 10, .inl (fun _ => 0))), (a20, .inl (cA 0, 10, .inl (fun _ => 0)))]) H locs := hH
  refine lv_aload_n hx hb d10_init_25 rfl (lv_at hl 0 rfl) ?_
  refine lv_bipush (v := (10 : Int32)) hx hb d10_init_26 (by decide) ?_
  refine cx_newa C hH .int 0 (ty := .int) rfl rfl mA_0 (fun _ => rfl) rfl (N := 10) (by decide) (by decide) (by decide) (Nat.le_of_ble_eq_true rfl) (Nat.le_of_ble_eq_true rfl) d10_init_28 (fun a28 H hH => ?_)
  have hH : cx_H D B0 s (pre ++ [(q, .inr (10, [.int (0 : Int32), .ref a12, .ref a20, .null])), (a12, .inl (cA 0, 10, .inl (fun _ => 0))), (a20, .inl (cA 0, 10, .inl (fun _ => 0))), (a28, .inl (cA 0, 10, .inl (fun _ => 0)))]) H locs := hH
  refine cx_put C hH (i := 0) (ci := 10) (j := 3) (N := 4) (fy := fy_10) (v := .ref a28) rfl rfl fw_10 fo_10 fn_10 (by decide) fl_10_22 rfl rfl rfl (by decide) d10_init_30 (fun H locs hH => ?_)
  have hH : cx_H D B0 s (pre ++ [(q, .inr (10, [.int (0 : Int32), .ref a12, .ref a20, .ref a28])), (a12, .inl (cA 0, 10, .inl (fun _ => 0))), (a20, .inl (cA 0, 10, .inl (fun _ => 0))), (a28, .inl (cA 0, 10, .inl (fun _ => 0)))]) H locs := hH
  exact cx_ret C (ce_sok aK aV B0) (a12, a20, a28) trivial hH d10_init_33
abbrev b2_init : ByteArray := prog_4_method_1_code
def y2_init : MethodName := ⟨cn_2, "<init>", "()V"⟩
theorem d2_init_0 : decode b2_init 0 = .ok (.aload_n 0, 1) := by decide +kernel
theorem d2_init_1 : decode b2_init 1 = .ok (.invokespecial 3, 3) := by decide +kernel
theorem d2_init_4 : decode b2_init 4 = .ok (.aload_n 0, 1) := by decide +kernel
theorem d2_init_5 : decode b2_init 5 = .ok (.iconst 0, 1) := by decide +kernel
theorem d2_init_6 : decode b2_init 6 = .ok (.putfield 9, 3) := by decide +kernel
theorem d2_init_9 : decode b2_init 9 = .ok (.aload_n 0, 1) := by decide +kernel
theorem d2_init_10 : decode b2_init 10 = .ok (.iconst 0, 1) := by decide +kernel
theorem d2_init_11 : decode b2_init 11 = .ok (.putfield 15, 3) := by decide +kernel
theorem d2_init_14 : decode b2_init 14 = .ok (.aload_n 0, 1) := by decide +kernel
theorem d2_init_15 : decode b2_init 15 = .ok (.bipush 10, 2) := by decide +kernel
theorem d2_init_17 : decode b2_init 17 = .ok (.newarray .int, 2) := by decide +kernel
theorem d2_init_19 : decode b2_init 19 = .ok (.putfield 18, 3) := by decide +kernel
theorem d2_init_22 : decode b2_init 22 = .ok (.aload_n 0, 1) := by decide +kernel
theorem d2_init_23 : decode b2_init 23 = .ok (.bipush 10, 2) := by decide +kernel
theorem d2_init_25 : decode b2_init 25 = .ok (.newarray .int, 2) := by decide +kernel
theorem d2_init_27 : decode b2_init 27 = .ok (.putfield 22, 3) := by decide +kernel
theorem d2_init_30 : decode b2_init 30 = .ok (.aload_n 0, 1) := by decide +kernel
theorem d2_init_31 : decode b2_init 31 = .ok (.bipush 10, 2) := by decide +kernel
theorem d2_init_33 : decode b2_init 33 = .ok (.newarray .int, 2) := by decide +kernel
theorem d2_init_35 : decode b2_init 35 = .ok (.putfield 25, 3) := by decide +kernel
theorem d2_init_38 : decode b2_init 38 = .ok (.return_, 1) := by decide +kernel
def cz_2 (cA : Nat → ClassId) (q : Nat) (x : Nat × Nat × Nat) : va_W := [(q, .inr (2, [.int (0 : Int32), .int (0 : Int32), .ref x.1, .ref x.2.1, .ref x.2.2])), (x.1, .inl (cA 0, 10, .inl (fun _ => 0))), (x.2.1, .inl (cA 0, 10, .inl (fun _ => 0))), (x.2.2, .inl (cA 0, 10, .inl (fun _ => 0)))]
theorem mo_2 : Cond.methodLink cn_2 3 Lib.objectInit ∈ ce_cm := ce_cm_of (List.mem_of_getElem? (i := 354) (by decide +kernel)) (by decide +kernel)
set_option maxRecDepth 20000 in
set_option maxHeartbeats 4000000 in
theorem ci_2 (l : Launch) (D : va_G) (cA : Nat → ClassId) (aK aV : Nat → Nat) (B0 : Nat) (pre : va_W) (q : Nat) : cx_Ct l D cA B0 (ce_St aK aV B0) y2_init b2_init 1 1 12 3 30 [.ref q] (pre ++ [(q, .inr (2, [.int 0, .int 0, .null, .null, .null]))]) (fun (_ : Nat × Nat × Nat) => True) (fun x => pre ++ cz_2 cA q x) := by
  refine cx_enter (by decide) rfl rfl (Nat.le_of_ble_eq_true rfl) (fun p e0 s m below meth c ls C hH hl => ?_)
  have hl : lv_has ls 1 [(0, .ref q)] := hl
  have hx := C.1
  have hb := C.2.1
  refine lv_aload_n hx hb d2_init_0 rfl (lv_at hl 0 rfl) ?_
  refine cx_obj C mo_2 mI_obj mC_obj hl.1 d2_init_1 (Nat.le_of_ble_eq_true rfl) (Nat.le_of_ble_eq_true rfl) ?_
  refine lv_aload_n hx hb d2_init_4 rfl (lv_at hl 0 rfl) ?_
  refine lv_iconst (v := (0 : Int32)) hx hb d2_init_5 (by decide) ?_
  refine cx_put C hH (i := 0) (ci := 2) (j := 0) (N := 5) (fy := fy_2) (v := .int (0 : Int32)) rfl rfl fw_2 fo_2 fn_2 (by decide) fl_2_9 rfl rfl rfl (by decide) d2_init_6 (fun H locs hH => ?_)
  have hH : cx_H D B0 s (pre ++ [(q, .inr (2, [.int (0 : Int32), .int 0, .null, .null, .null]))]) H locs := hH
  refine lv_aload_n hx hb d2_init_9 rfl (lv_at hl 0 rfl) ?_
  refine lv_iconst (v := (0 : Int32)) hx hb d2_init_10 (by decide) ?_
  refine cx_put C hH (i := 0) (ci := 2) (j := 1) (N := 5) (fy := fy_2) (v := .int (0 : Int32)) rfl rfl fw_2 fo_2 fn_2 (by decide) fl_2_15 rfl rfl rfl (by decide) d2_init_11 (fun H locs hH => ?_)
  have hH : cx_H D B0 s (pre ++ [(q, .inr (2, [.int (0 : Int32), .int (0 : Int32), .null, .null, .null]))]) H locs := hH
  refine lv_aload_n hx hb d2_init_14 rfl (lv_at hl 0 rfl) ?_
  refine lv_bipush (v := (10 : Int32)) hx hb d2_init_15 (by decide) ?_
  refine cx_newa C hH .int 0 (ty := .int) rfl rfl mA_0 (fun _ => rfl) rfl (N := 10) (by decide) (by decide) (by decide) (Nat.le_of_ble_eq_true rfl) (Nat.le_of_ble_eq_true rfl) d2_init_17 (fun a17 H hH => ?_)
  have hH : cx_H D B0 s (pre ++ [(q, .inr (2, [.int (0 : Int32), .int (0 : Int32), .null, .null, .null])), (a17, .inl (cA 0, 10, .inl (fun _ => 0)))]) H locs := hH
  refine cx_put C hH (i := 0) (ci := 2) (j := 2) (N := 5) (fy := fy_2) (v := .ref a17) rfl rfl fw_2 fo_2 fn_2 (by decide) fl_2_18 rfl rfl rfl (by decide) d2_init_19 (fun H locs hH => ?_)
  have hH : cx_H D B0 s (pre ++ [(q, .inr (2, [.int (0 : Int32), .int (0 : Int32), .ref a17, .null, .null])), (a17, .inl (cA 0, 10, .inl (fun _ => 0)))]) H locs := hH
  refine lv_aload_n hx hb d2_init_22 rfl (lv_at hl 0 rfl) ?_
  refine lv_bipush (v := (10 : Int32)) hx hb d2_init_23 (by decide) ?_
  refine cx_newa C hH .int 0 (ty := .int) rfl rfl mA_0 (fun _ => rfl) rfl (N := 10) (by decide) (by decide) (by decide) (Nat.le_of_ble_eq_true rfl) (Nat.le_of_ble_eq_true rfl) d2_init_25 (fun a25 H hH => ?_)
  have hH : cx_H D B0 s (pre ++ [(q, .inr (2, [.int (0 : Int32), .int (0 : Int32), .ref a17, .null, .null])), (a17, .inl (cA 0, 10, .inl (fun _ => 0))), (a25, .inl (cA 0, 10, .inl (fun _ => 0)))]) H locs := hH
  refine cx_put C hH (i := 0) (ci := 2) (j := 3) (N := 5) (fy := fy_2) (v := .ref a25) rfl rfl fw_2 fo_2 fn_2 (by decide) fl_2_22 rfl rfl rfl (by decide) d2_init_27 (fun H locs hH => ?_)
  have hH : cx_H D B0 s (pre ++ [(q, .inr (2, [.int (0 : Int32), .int (0 : Int32), .ref a17, .ref a25, .null])), (a17, .inl (cA 0, 10, .inl (fun _ => 0))), (a25, .inl (cA 0, 10, .inl (fun _ => 0)))]) H locs := hH
  refine lv_aload_n hx hb d2_init_30 rfl (lv_at hl 0 rfl) ?_
  refine lv_bipush (v := (10 : Int32)) hx hb d2_init_31 (by decide) ?_
  refine cx_newa C hH .int 0 (ty := .int) rfl rfl mA_0 (fun _ => rfl) rfl (N := 10) (by decide) (by decide) (by decide) (Nat.le_of_ble_eq_true rfl) (Nat.le_of_ble_eq_true rfl) d2_init_33 (fun a33 H hH => ?_)
  have hH : cx_H D B0 s (pre ++ [(q, .inr (2, [.int (0 : Int32), .int (0 : Int32), .ref a17, .ref a25, .null])), (a17, .inl (cA 0, 10, .inl (fun _ => 0))), (a25, .inl (cA 0, 10, .inl (fun _ => 0))), (a33, .inl (cA 0, 10, .inl (fun _ => 0)))]) H locs := hH
  refine cx_put C hH (i := 0) (ci := 2) (j := 4) (N := 5) (fy := fy_2) (v := .ref a33) rfl rfl fw_2 fo_2 fn_2 (by decide) fl_2_25 rfl rfl rfl (by decide) d2_init_35 (fun H locs hH => ?_)
  have hH : cx_H D B0 s (pre ++ [(q, .inr (2, [.int (0 : Int32), .int (0 : Int32), .ref a17, .ref a25, .ref a33])), (a17, .inl (cA 0, 10, .inl (fun _ => 0))), (a25, .inl (cA 0, 10, .inl (fun _ => 0))), (a33, .inl (cA 0, 10, .inl (fun _ => 0)))]) H locs := hH
  exact cx_ret C (ce_sok aK aV B0) (a17, a25, a33) trivial hH d2_init_38
abbrev b3_init : ByteArray := prog_5_method_1_code
def y3_init : MethodName := ⟨cn_3, "<init>", "()V"⟩
theorem d3_init_0 : decode b3_init 0 = .ok (.aload_n 0, 1) := by decide +kernel
theorem d3_init_1 : decode b3_init 1 = .ok (.invokespecial 3, 3) := by decide +kernel
theorem d3_init_4 : decode b3_init 4 = .ok (.aload_n 0, 1) := by decide +kernel
theorem d3_init_5 : decode b3_init 5 = .ok (.bipush 10, 2) := by decide +kernel
theorem d3_init_7 : decode b3_init 7 = .ok (.newarray .int, 2) := by decide +kernel
theorem d3_init_9 : decode b3_init 9 = .ok (.putfield 9, 3) := by decide +kernel
theorem d3_init_12 : decode b3_init 12 = .ok (.aload_n 0, 1) := by decide +kernel
theorem d3_init_13 : decode b3_init 13 = .ok (.bipush 10, 2) := by decide +kernel
theorem d3_init_15 : decode b3_init 15 = .ok (.newarray .int, 2) := by decide +kernel
theorem d3_init_17 : decode b3_init 17 = .ok (.putfield 15, 3) := by decide +kernel
theorem d3_init_20 : decode b3_init 20 = .ok (.aload_n 0, 1) := by decide +kernel
theorem d3_init_21 : decode b3_init 21 = .ok (.bipush 10, 2) := by decide +kernel
theorem d3_init_23 : decode b3_init 23 = .ok (.newarray .int, 2) := by decide +kernel
theorem d3_init_25 : decode b3_init 25 = .ok (.putfield 18, 3) := by decide +kernel
theorem d3_init_28 : decode b3_init 28 = .ok (.aload_n 0, 1) := by decide +kernel
theorem d3_init_29 : decode b3_init 29 = .ok (.bipush 10, 2) := by decide +kernel
theorem d3_init_31 : decode b3_init 31 = .ok (.newarray .int, 2) := by decide +kernel
theorem d3_init_33 : decode b3_init 33 = .ok (.putfield 21, 3) := by decide +kernel
theorem d3_init_36 : decode b3_init 36 = .ok (.aload_n 0, 1) := by decide +kernel
theorem d3_init_37 : decode b3_init 37 = .ok (.bipush 10, 2) := by decide +kernel
theorem d3_init_39 : decode b3_init 39 = .ok (.newarray .int, 2) := by decide +kernel
theorem d3_init_41 : decode b3_init 41 = .ok (.putfield 24, 3) := by decide +kernel
theorem d3_init_44 : decode b3_init 44 = .ok (.aload_n 0, 1) := by decide +kernel
theorem d3_init_45 : decode b3_init 45 = .ok (.bipush 40, 2) := by decide +kernel
theorem d3_init_47 : decode b3_init 47 = .ok (.newarray .int, 2) := by decide +kernel
theorem d3_init_49 : decode b3_init 49 = .ok (.putfield 27, 3) := by decide +kernel
theorem d3_init_52 : decode b3_init 52 = .ok (.return_, 1) := by decide +kernel
def cz_3 (cA : Nat → ClassId) (q : Nat) (x : Nat × Nat × Nat × Nat × Nat × Nat) : va_W := [(q, .inr (3, [.ref x.1, .ref x.2.1, .ref x.2.2.1, .ref x.2.2.2.1, .ref x.2.2.2.2.1, .ref x.2.2.2.2.2])), (x.1, .inl (cA 0, 10, .inl (fun _ => 0))), (x.2.1, .inl (cA 0, 10, .inl (fun _ => 0))), (x.2.2.1, .inl (cA 0, 10, .inl (fun _ => 0))), (x.2.2.2.1, .inl (cA 0, 10, .inl (fun _ => 0))), (x.2.2.2.2.1, .inl (cA 0, 10, .inl (fun _ => 0))), (x.2.2.2.2.2, .inl (cA 0, 40, .inl (fun _ => 0)))]
theorem mo_3 : Cond.methodLink cn_3 3 Lib.objectInit ∈ ce_cm := ce_cm_of (List.mem_of_getElem? (i := 378) (by decide +kernel)) (by decide +kernel)
set_option maxRecDepth 20000 in
set_option maxHeartbeats 4000000 in
theorem ci_3 (l : Launch) (D : va_G) (cA : Nat → ClassId) (aK aV : Nat → Nat) (B0 : Nat) (pre : va_W) (q : Nat) : cx_Ct l D cA B0 (ce_St aK aV B0) y3_init b3_init 1 1 12 6 90 [.ref q] (pre ++ [(q, .inr (3, [.null, .null, .null, .null, .null, .null]))]) (fun (_ : Nat × Nat × Nat × Nat × Nat × Nat) => True) (fun x => pre ++ cz_3 cA q x) := by
  refine cx_enter (by decide) rfl rfl (Nat.le_of_ble_eq_true rfl) (fun p e0 s m below meth c ls C hH hl => ?_)
  have hl : lv_has ls 1 [(0, .ref q)] := hl
  have hx := C.1
  have hb := C.2.1
  refine lv_aload_n hx hb d3_init_0 rfl (lv_at hl 0 rfl) ?_
  refine cx_obj C mo_3 mI_obj mC_obj hl.1 d3_init_1 (Nat.le_of_ble_eq_true rfl) (Nat.le_of_ble_eq_true rfl) ?_
  refine lv_aload_n hx hb d3_init_4 rfl (lv_at hl 0 rfl) ?_
  refine lv_bipush (v := (10 : Int32)) hx hb d3_init_5 (by decide) ?_
  refine cx_newa C hH .int 0 (ty := .int) rfl rfl mA_0 (fun _ => rfl) rfl (N := 10) (by decide) (by decide) (by decide) (Nat.le_of_ble_eq_true rfl) (Nat.le_of_ble_eq_true rfl) d3_init_7 (fun a7 H hH => ?_)
  have hH : cx_H D B0 s (pre ++ [(q, .inr (3, [.null, .null, .null, .null, .null, .null])), (a7, .inl (cA 0, 10, .inl (fun _ => 0)))]) H locs := hH
  refine cx_put C hH (i := 0) (ci := 3) (j := 0) (N := 6) (fy := fy_3) (v := .ref a7) rfl rfl fw_3 fo_3 fn_3 (by decide) fl_3_9 rfl rfl rfl (by decide) d3_init_9 (fun H locs hH => ?_)
  have hH : cx_H D B0 s (pre ++ [(q, .inr (3, [.ref a7, .null, .null, .null, .null, .null])), (a7, .inl (cA 0, 10, .inl (fun _ => 0)))]) H locs := hH
  refine lv_aload_n hx hb d3_init_12 rfl (lv_at hl 0 rfl) ?_
  refine lv_bipush (v := (10 : Int32)) hx hb d3_init_13 (by decide) ?_
  refine cx_newa C hH .int 0 (ty := .int) rfl rfl mA_0 (fun _ => rfl) rfl (N := 10) (by decide) (by decide) (by decide) (Nat.le_of_ble_eq_true rfl) (Nat.le_of_ble_eq_true rfl) d3_init_15 (fun a15 H hH => ?_)
  have hH : cx_H D B0 s (pre ++ [(q, .inr (3, [.ref a7, .null, .null, .null, .null, .null])), (a7, .inl (cA 0, 10, .inl (fun _ => 0))), (a15, .inl (cA 0, 10, .inl (fun _ => 0)))]) H locs := hH
  refine cx_put C hH (i := 0) (ci := 3) (j := 1) (N := 6) (fy := fy_3) (v := .ref a15) rfl rfl fw_3 fo_3 fn_3 (by decide) fl_3_15 rfl rfl rfl (by decide) d3_init_17 (fun H locs hH => ?_)
  have hH : cx_H D B0 s (pre ++ [(q, .inr (3, [.ref a7, .ref a15, .null, .null, .null, .null])), (a7, .inl (cA 0, 10, .inl (fun _ => 0))), (a15, .inl (cA 0, 10, .inl (fun _ => 0)))]) H locs := hH
  refine lv_aload_n hx hb d3_init_20 rfl (lv_at hl 0 rfl) ?_
  refine lv_bipush (v := (10 : Int32)) hx hb d3_init_21 (by decide) ?_
  refine cx_newa C hH .int 0 (ty := .int) rfl rfl mA_0 (fun _ => rfl) rfl (N := 10) (by decide) (by decide) (by decide) (Nat.le_of_ble_eq_true rfl) (Nat.le_of_ble_eq_true rfl) d3_init_23 (fun a23 H hH => ?_)
  have hH : cx_H D B0 s (pre ++ [(q, .inr (3, [.ref a7, .ref a15, .null, .null, .null, .null])), (a7, .inl (cA 0, 10, .inl (fun _ => 0))), (a15, .inl (cA 0, 10, .inl (fun _ => 0))), (a23, .inl (cA 0, 10, .inl (fun _ => 0)))]) H locs := hH
  refine cx_put C hH (i := 0) (ci := 3) (j := 2) (N := 6) (fy := fy_3) (v := .ref a23) rfl rfl fw_3 fo_3 fn_3 (by decide) fl_3_18 rfl rfl rfl (by decide) d3_init_25 (fun H locs hH => ?_)
  have hH : cx_H D B0 s (pre ++ [(q, .inr (3, [.ref a7, .ref a15, .ref a23, .null, .null, .null])), (a7, .inl (cA 0, 10, .inl (fun _ => 0))), (a15, .inl (cA 0, 10, .inl (fun _ => 0))), (a23, .inl (cA 0, 10, .inl (fun _ => 0)))]) H locs := hH
  refine lv_aload_n hx hb d3_init_28 rfl (lv_at hl 0 rfl) ?_
  refine lv_bipush (v := (10 : Int32)) hx hb d3_init_29 (by decide) ?_
  refine cx_newa C hH .int 0 (ty := .int) rfl rfl mA_0 (fun _ => rfl) rfl (N := 10) (by decide) (by decide) (by decide) (Nat.le_of_ble_eq_true rfl) (Nat.le_of_ble_eq_true rfl) d3_init_31 (fun a31 H hH => ?_)
  have hH : cx_H D B0 s (pre ++ [(q, .inr (3, [.ref a7, .ref a15, .ref a23, .null, .null, .null])), (a7, .inl (cA 0, 10, .inl (fun _ => 0))), (a15, .inl (cA 0, 10, .inl (fun _ => 0))), (a23, .inl (cA 0, 10, .inl (fun _ => 0))), (a31, .inl (cA 0, 10, .inl (fun _ => 0)))]) H locs := hH
  refine cx_put C hH (i := 0) (ci := 3) (j := 3) (N := 6) (fy := fy_3) (v := .ref a31) rfl rfl fw_3 fo_3 fn_3 (by decide) fl_3_21 rfl rfl rfl (by decide) d3_init_33 (fun H locs hH => ?_)
  have hH : cx_H D B0 s (pre ++ [(q, .inr (3, [.ref a7, .ref a15, .ref a23, .ref a31, .null, .null])), (a7, .inl (cA 0, 10, .inl (fun _ => 0))), (a15, .inl (cA 0, 10, .inl (fun _ => 0))), (a23, .inl (cA 0, 10, .inl (fun _ => 0))), (a31, .inl (cA 0, 10, .inl (fun _ => 0)))]) H locs := hH
  refine lv_aload_n hx hb d3_init_36 rfl (lv_at hl 0 rfl) ?_
  refine lv_bipush (v := (10 : Int32)) hx hb d3_init_37 (by decide) ?_
  refine cx_newa C hH .int 0 (ty := .int) rfl rfl mA_0 (fun _ => rfl) rfl (N := 10) (by decide) (by decide) (by decide) (Nat.le_of_ble_eq_true rfl) (Nat.le_of_ble_eq_true rfl) d3_init_39 (fun a39 H hH => ?_)
  have hH : cx_H D B0 s (pre ++ [(q, .inr (3, [.ref a7, .ref a15, .ref a23, .ref a31, .null, .null])), (a7, .inl (cA 0, 10, .inl (fun _ => 0))), (a15, .inl (cA 0, 10, .inl (fun _ => 0))), (a23, .inl (cA 0, 10, .inl (fun _ => 0))), (a31, .inl (cA 0, 10, .inl (fun _ => 0))), (a39, .inl (cA 0, 10, .inl (fun _ => 0)))]) H locs := hH
  refine cx_put C hH (i := 0) (ci := 3) (j := 4) (N := 6) (fy := fy_3) (v := .ref a39) rfl rfl fw_3 fo_3 fn_3 (by decide) fl_3_24 rfl rfl rfl (by decide) d3_init_41 (fun H locs hH => ?_)
  have hH : cx_H D B0 s (pre ++ [(q, .inr (3, [.ref a7, .ref a15, .ref a23, .ref a31, .ref a39, .null])), (a7, .inl (cA 0, 10, .inl (fun _ => 0))), (a15, .inl (cA 0, 10, .inl (fun _ => 0))), (a23, .inl (cA 0, 10, .inl (fun _ => 0))), (a31, .inl (cA 0, 10, .inl (fun _ => 0))), (a39, .inl (cA 0, 10, .inl (fun _ => 0)))]) H locs := hH
  refine lv_aload_n hx hb d3_init_44 rfl (lv_at hl 0 rfl) ?_
  refine lv_bipush (v := (40 : Int32)) hx hb d3_init_45 (by decide) ?_
  refine cx_newa C hH .int 0 (ty := .int) rfl rfl mA_0 (fun _ => rfl) rfl (N := 40) (by decide) (by decide) (by decide) (Nat.le_of_ble_eq_true rfl) (Nat.le_of_ble_eq_true rfl) d3_init_47 (fun a47 H hH => ?_)
  have hH : cx_H D B0 s (pre ++ [(q, .inr (3, [.ref a7, .ref a15, .ref a23, .ref a31, .ref a39, .null])), (a7, .inl (cA 0, 10, .inl (fun _ => 0))), (a15, .inl (cA 0, 10, .inl (fun _ => 0))), (a23, .inl (cA 0, 10, .inl (fun _ => 0))), (a31, .inl (cA 0, 10, .inl (fun _ => 0))), (a39, .inl (cA 0, 10, .inl (fun _ => 0))), (a47, .inl (cA 0, 40, .inl (fun _ => 0)))]) H locs := hH
  refine cx_put C hH (i := 0) (ci := 3) (j := 5) (N := 6) (fy := fy_3) (v := .ref a47) rfl rfl fw_3 fo_3 fn_3 (by decide) fl_3_27 rfl rfl rfl (by decide) d3_init_49 (fun H locs hH => ?_)
  have hH : cx_H D B0 s (pre ++ [(q, .inr (3, [.ref a7, .ref a15, .ref a23, .ref a31, .ref a39, .ref a47])), (a7, .inl (cA 0, 10, .inl (fun _ => 0))), (a15, .inl (cA 0, 10, .inl (fun _ => 0))), (a23, .inl (cA 0, 10, .inl (fun _ => 0))), (a31, .inl (cA 0, 10, .inl (fun _ => 0))), (a39, .inl (cA 0, 10, .inl (fun _ => 0))), (a47, .inl (cA 0, 40, .inl (fun _ => 0)))]) H locs := hH
  exact cx_ret C (ce_sok aK aV B0) (a7, a15, a23, a31, a39, a47) trivial hH d3_init_52
abbrev b4_init : ByteArray := prog_6_method_1_code
def y4_init : MethodName := ⟨cn_4, "<init>", "()V"⟩
theorem d4_init_0 : decode b4_init 0 = .ok (.aload_n 0, 1) := by decide +kernel
theorem d4_init_1 : decode b4_init 1 = .ok (.invokespecial 3, 3) := by decide +kernel
theorem d4_init_4 : decode b4_init 4 = .ok (.aload_n 0, 1) := by decide +kernel
theorem d4_init_5 : decode b4_init 5 = .ok (.bipush 10, 2) := by decide +kernel
theorem d4_init_7 : decode b4_init 7 = .ok (.newarray .int, 2) := by decide +kernel
theorem d4_init_9 : decode b4_init 9 = .ok (.putfield 9, 3) := by decide +kernel
theorem d4_init_12 : decode b4_init 12 = .ok (.aload_n 0, 1) := by decide +kernel
theorem d4_init_13 : decode b4_init 13 = .ok (.bipush 100, 2) := by decide +kernel
theorem d4_init_15 : decode b4_init 15 = .ok (.newarray .int, 2) := by decide +kernel
theorem d4_init_17 : decode b4_init 17 = .ok (.putfield 15, 3) := by decide +kernel
theorem d4_init_20 : decode b4_init 20 = .ok (.return_, 1) := by decide +kernel
def cz_4 (cA : Nat → ClassId) (q : Nat) (x : Nat × Nat) : va_W := [(q, .inr (4, [.ref x.1, .ref x.2])), (x.1, .inl (cA 0, 10, .inl (fun _ => 0))), (x.2, .inl (cA 0, 100, .inl (fun _ => 0)))]
theorem mo_4 : Cond.methodLink cn_4 3 Lib.objectInit ∈ ce_cm := ce_cm_of (List.mem_of_getElem? (i := 407) (by decide +kernel)) (by decide +kernel)
set_option maxRecDepth 20000 in
set_option maxHeartbeats 4000000 in
theorem ci_4 (l : Launch) (D : va_G) (cA : Nat → ClassId) (aK aV : Nat → Nat) (B0 : Nat) (pre : va_W) (q : Nat) : cx_Ct l D cA B0 (ce_St aK aV B0) y4_init b4_init 1 1 12 2 110 [.ref q] (pre ++ [(q, .inr (4, [.null, .null]))]) (fun (_ : Nat × Nat) => True) (fun x => pre ++ cz_4 cA q x) := by
  refine cx_enter (by decide) rfl rfl (Nat.le_of_ble_eq_true rfl) (fun p e0 s m below meth c ls C hH hl => ?_)
  have hl : lv_has ls 1 [(0, .ref q)] := hl
  have hx := C.1
  have hb := C.2.1
  refine lv_aload_n hx hb d4_init_0 rfl (lv_at hl 0 rfl) ?_
  refine cx_obj C mo_4 mI_obj mC_obj hl.1 d4_init_1 (Nat.le_of_ble_eq_true rfl) (Nat.le_of_ble_eq_true rfl) ?_
  refine lv_aload_n hx hb d4_init_4 rfl (lv_at hl 0 rfl) ?_
  refine lv_bipush (v := (10 : Int32)) hx hb d4_init_5 (by decide) ?_
  refine cx_newa C hH .int 0 (ty := .int) rfl rfl mA_0 (fun _ => rfl) rfl (N := 10) (by decide) (by decide) (by decide) (Nat.le_of_ble_eq_true rfl) (Nat.le_of_ble_eq_true rfl) d4_init_7 (fun a7 H hH => ?_)
  have hH : cx_H D B0 s (pre ++ [(q, .inr (4, [.null, .null])), (a7, .inl (cA 0, 10, .inl (fun _ => 0)))]) H locs := hH
  refine cx_put C hH (i := 0) (ci := 4) (j := 0) (N := 2) (fy := fy_4) (v := .ref a7) rfl rfl fw_4 fo_4 fn_4 (by decide) fl_4_9 rfl rfl rfl (by decide) d4_init_9 (fun H locs hH => ?_)
  have hH : cx_H D B0 s (pre ++ [(q, .inr (4, [.ref a7, .null])), (a7, .inl (cA 0, 10, .inl (fun _ => 0)))]) H locs := hH
  refine lv_aload_n hx hb d4_init_12 rfl (lv_at hl 0 rfl) ?_
  refine lv_bipush (v := (100 : Int32)) hx hb d4_init_13 (by decide) ?_
  refine cx_newa C hH .int 0 (ty := .int) rfl rfl mA_0 (fun _ => rfl) rfl (N := 100) (by decide) (by decide) (by decide) (Nat.le_of_ble_eq_true rfl) (Nat.le_of_ble_eq_true rfl) d4_init_15 (fun a15 H hH => ?_)
  have hH : cx_H D B0 s (pre ++ [(q, .inr (4, [.ref a7, .null])), (a7, .inl (cA 0, 10, .inl (fun _ => 0))), (a15, .inl (cA 0, 100, .inl (fun _ => 0)))]) H locs := hH
  refine cx_put C hH (i := 0) (ci := 4) (j := 1) (N := 2) (fy := fy_4) (v := .ref a15) rfl rfl fw_4 fo_4 fn_4 (by decide) fl_4_15 rfl rfl rfl (by decide) d4_init_17 (fun H locs hH => ?_)
  have hH : cx_H D B0 s (pre ++ [(q, .inr (4, [.ref a7, .ref a15])), (a7, .inl (cA 0, 10, .inl (fun _ => 0))), (a15, .inl (cA 0, 100, .inl (fun _ => 0)))]) H locs := hH
  exact cx_ret C (ce_sok aK aV B0) (a7, a15) trivial hH d4_init_20
abbrev b1_init : ByteArray := prog_3_method_1_code
def y1_init : MethodName := ⟨cn_1, "<init>", "()V"⟩
theorem d1_init_0 : decode b1_init 0 = .ok (.aload_n 0, 1) := by decide +kernel
theorem d1_init_1 : decode b1_init 1 = .ok (.invokespecial 3, 3) := by decide +kernel
theorem d1_init_4 : decode b1_init 4 = .ok (.aload_n 0, 1) := by decide +kernel
theorem d1_init_5 : decode b1_init 5 = .ok (.iconst (-1), 1) := by decide +kernel
theorem d1_init_6 : decode b1_init 6 = .ok (.putfield 9, 3) := by decide +kernel
theorem d1_init_9 : decode b1_init 9 = .ok (.aload_n 0, 1) := by decide +kernel
theorem d1_init_10 : decode b1_init 10 = .ok (.iconst 0, 1) := by decide +kernel
theorem d1_init_11 : decode b1_init 11 = .ok (.putfield 15, 3) := by decide +kernel
theorem d1_init_14 : decode b1_init 14 = .ok (.aload_n 0, 1) := by decide +kernel
theorem d1_init_15 : decode b1_init 15 = .ok (.bipush 10, 2) := by decide +kernel
theorem d1_init_17 : decode b1_init 17 = .ok (.newarray .int, 2) := by decide +kernel
theorem d1_init_19 : decode b1_init 19 = .ok (.putfield 18, 3) := by decide +kernel
theorem d1_init_22 : decode b1_init 22 = .ok (.aload_n 0, 1) := by decide +kernel
theorem d1_init_23 : decode b1_init 23 = .ok (.bipush 10, 2) := by decide +kernel
theorem d1_init_25 : decode b1_init 25 = .ok (.newarray .int, 2) := by decide +kernel
theorem d1_init_27 : decode b1_init 27 = .ok (.putfield 22, 3) := by decide +kernel
theorem d1_init_30 : decode b1_init 30 = .ok (.return_, 1) := by decide +kernel
def cz_1 (cA : Nat → ClassId) (q : Nat) (x : Nat × Nat) : va_W := [(q, .inr (1, [.int (-1 : Int32), .int (0 : Int32), .ref x.1, .ref x.2])), (x.1, .inl (cA 0, 10, .inl (fun _ => 0))), (x.2, .inl (cA 0, 10, .inl (fun _ => 0)))]
theorem mo_1 : Cond.methodLink cn_1 3 Lib.objectInit ∈ ce_cm := ce_cm_of (List.mem_of_getElem? (i := 421) (by decide +kernel)) (by decide +kernel)
set_option maxRecDepth 20000 in
set_option maxHeartbeats 4000000 in
theorem ci_1 (l : Launch) (D : va_G) (cA : Nat → ClassId) (aK aV : Nat → Nat) (B0 : Nat) (pre : va_W) (q : Nat) : cx_Ct l D cA B0 (ce_St aK aV B0) y1_init b1_init 1 1 12 2 20 [.ref q] (pre ++ [(q, .inr (1, [.int 0, .int 0, .null, .null]))]) (fun (_ : Nat × Nat) => True) (fun x => pre ++ cz_1 cA q x) := by
  refine cx_enter (by decide) rfl rfl (Nat.le_of_ble_eq_true rfl) (fun p e0 s m below meth c ls C hH hl => ?_)
  have hl : lv_has ls 1 [(0, .ref q)] := hl
  have hx := C.1
  have hb := C.2.1
  refine lv_aload_n hx hb d1_init_0 rfl (lv_at hl 0 rfl) ?_
  refine cx_obj C mo_1 mI_obj mC_obj hl.1 d1_init_1 (Nat.le_of_ble_eq_true rfl) (Nat.le_of_ble_eq_true rfl) ?_
  refine lv_aload_n hx hb d1_init_4 rfl (lv_at hl 0 rfl) ?_
  refine lv_iconst (v := (-1 : Int32)) hx hb d1_init_5 (by decide) ?_
  refine cx_put C hH (i := 0) (ci := 1) (j := 0) (N := 4) (fy := fy_1) (v := .int (-1 : Int32)) rfl rfl fw_1 fo_1 fn_1 (by decide) fl_1_9 rfl rfl rfl (by decide) d1_init_6 (fun H locs hH => ?_)
  have hH : cx_H D B0 s (pre ++ [(q, .inr (1, [.int (-1 : Int32), .int 0, .null, .null]))]) H locs := hH
  refine lv_aload_n hx hb d1_init_9 rfl (lv_at hl 0 rfl) ?_
  refine lv_iconst (v := (0 : Int32)) hx hb d1_init_10 (by decide) ?_
  refine cx_put C hH (i := 0) (ci := 1) (j := 1) (N := 4) (fy := fy_1) (v := .int (0 : Int32)) rfl rfl fw_1 fo_1 fn_1 (by decide) fl_1_15 rfl rfl rfl (by decide) d1_init_11 (fun H locs hH => ?_)
  have hH : cx_H D B0 s (pre ++ [(q, .inr (1, [.int (-1 : Int32), .int (0 : Int32), .null, .null]))]) H locs := hH
  refine lv_aload_n hx hb d1_init_14 rfl (lv_at hl 0 rfl) ?_
  refine lv_bipush (v := (10 : Int32)) hx hb d1_init_15 (by decide) ?_
  refine cx_newa C hH .int 0 (ty := .int) rfl rfl mA_0 (fun _ => rfl) rfl (N := 10) (by decide) (by decide) (by decide) (Nat.le_of_ble_eq_true rfl) (Nat.le_of_ble_eq_true rfl) d1_init_17 (fun a17 H hH => ?_)
  have hH : cx_H D B0 s (pre ++ [(q, .inr (1, [.int (-1 : Int32), .int (0 : Int32), .null, .null])), (a17, .inl (cA 0, 10, .inl (fun _ => 0)))]) H locs := hH
  refine cx_put C hH (i := 0) (ci := 1) (j := 2) (N := 4) (fy := fy_1) (v := .ref a17) rfl rfl fw_1 fo_1 fn_1 (by decide) fl_1_18 rfl rfl rfl (by decide) d1_init_19 (fun H locs hH => ?_)
  have hH : cx_H D B0 s (pre ++ [(q, .inr (1, [.int (-1 : Int32), .int (0 : Int32), .ref a17, .null])), (a17, .inl (cA 0, 10, .inl (fun _ => 0)))]) H locs := hH
  refine lv_aload_n hx hb d1_init_22 rfl (lv_at hl 0 rfl) ?_
  refine lv_bipush (v := (10 : Int32)) hx hb d1_init_23 (by decide) ?_
  refine cx_newa C hH .int 0 (ty := .int) rfl rfl mA_0 (fun _ => rfl) rfl (N := 10) (by decide) (by decide) (by decide) (Nat.le_of_ble_eq_true rfl) (Nat.le_of_ble_eq_true rfl) d1_init_25 (fun a25 H hH => ?_)
  have hH : cx_H D B0 s (pre ++ [(q, .inr (1, [.int (-1 : Int32), .int (0 : Int32), .ref a17, .null])), (a17, .inl (cA 0, 10, .inl (fun _ => 0))), (a25, .inl (cA 0, 10, .inl (fun _ => 0)))]) H locs := hH
  refine cx_put C hH (i := 0) (ci := 1) (j := 3) (N := 4) (fy := fy_1) (v := .ref a25) rfl rfl fw_1 fo_1 fn_1 (by decide) fl_1_22 rfl rfl rfl (by decide) d1_init_27 (fun H locs hH => ?_)
  have hH : cx_H D B0 s (pre ++ [(q, .inr (1, [.int (-1 : Int32), .int (0 : Int32), .ref a17, .ref a25])), (a17, .inl (cA 0, 10, .inl (fun _ => 0))), (a25, .inl (cA 0, 10, .inl (fun _ => 0)))]) H locs := hH
  exact cx_ret C (ce_sok aK aV B0) (a17, a25) trivial hH d1_init_30
abbrev b11_init : ByteArray := prog_1_method_1_code
def y11_init : MethodName := ⟨cn_11, "<init>", "()V"⟩
theorem d11_init_0 : decode b11_init 0 = .ok (.aload_n 0, 1) := by decide +kernel
theorem d11_init_1 : decode b11_init 1 = .ok (.invokespecial 1, 3) := by decide +kernel
theorem d11_init_4 : decode b11_init 4 = .ok (.aload_n 0, 1) := by decide +kernel
theorem d11_init_5 : decode b11_init 5 = .ok (.new 7, 3) := by decide +kernel
theorem d11_init_8 : decode b11_init 8 = .ok (.dup, 1) := by decide +kernel
theorem d11_init_9 : decode b11_init 9 = .ok (.invokespecial 9, 3) := by decide +kernel
theorem d11_init_12 : decode b11_init 12 = .ok (.putfield 10, 3) := by decide +kernel
theorem d11_init_15 : decode b11_init 15 = .ok (.aload_n 0, 1) := by decide +kernel
theorem d11_init_16 : decode b11_init 16 = .ok (.new 16, 3) := by decide +kernel
theorem d11_init_19 : decode b11_init 19 = .ok (.dup, 1) := by decide +kernel
theorem d11_init_20 : decode b11_init 20 = .ok (.invokespecial 18, 3) := by decide +kernel
theorem d11_init_23 : decode b11_init 23 = .ok (.putfield 19, 3) := by decide +kernel
theorem d11_init_26 : decode b11_init 26 = .ok (.aload_n 0, 1) := by decide +kernel
theorem d11_init_27 : decode b11_init 27 = .ok (.new 23, 3) := by decide +kernel
theorem d11_init_30 : decode b11_init 30 = .ok (.dup, 1) := by decide +kernel
theorem d11_init_31 : decode b11_init 31 = .ok (.invokespecial 25, 3) := by decide +kernel
theorem d11_init_34 : decode b11_init 34 = .ok (.putfield 26, 3) := by decide +kernel
theorem d11_init_37 : decode b11_init 37 = .ok (.aload_n 0, 1) := by decide +kernel
theorem d11_init_38 : decode b11_init 38 = .ok (.new 23, 3) := by decide +kernel
theorem d11_init_41 : decode b11_init 41 = .ok (.dup, 1) := by decide +kernel
theorem d11_init_42 : decode b11_init 42 = .ok (.invokespecial 25, 3) := by decide +kernel
theorem d11_init_45 : decode b11_init 45 = .ok (.putfield 30, 3) := by decide +kernel
theorem d11_init_48 : decode b11_init 48 = .ok (.aload_n 0, 1) := by decide +kernel
theorem d11_init_49 : decode b11_init 49 = .ok (.new 33, 3) := by decide +kernel
theorem d11_init_52 : decode b11_init 52 = .ok (.dup, 1) := by decide +kernel
theorem d11_init_53 : decode b11_init 53 = .ok (.invokespecial 35, 3) := by decide +kernel
theorem d11_init_56 : decode b11_init 56 = .ok (.putfield 36, 3) := by decide +kernel
theorem d11_init_59 : decode b11_init 59 = .ok (.aload_n 0, 1) := by decide +kernel
theorem d11_init_60 : decode b11_init 60 = .ok (.new 33, 3) := by decide +kernel
theorem d11_init_63 : decode b11_init 63 = .ok (.dup, 1) := by decide +kernel
theorem d11_init_64 : decode b11_init 64 = .ok (.invokespecial 35, 3) := by decide +kernel
theorem d11_init_67 : decode b11_init 67 = .ok (.putfield 40, 3) := by decide +kernel
theorem d11_init_70 : decode b11_init 70 = .ok (.aload_n 0, 1) := by decide +kernel
theorem d11_init_71 : decode b11_init 71 = .ok (.new 43, 3) := by decide +kernel
theorem d11_init_74 : decode b11_init 74 = .ok (.dup, 1) := by decide +kernel
theorem d11_init_75 : decode b11_init 75 = .ok (.invokespecial 45, 3) := by decide +kernel
theorem d11_init_78 : decode b11_init 78 = .ok (.putfield 46, 3) := by decide +kernel
theorem d11_init_81 : decode b11_init 81 = .ok (.aload_n 0, 1) := by decide +kernel
theorem d11_init_82 : decode b11_init 82 = .ok (.new 50, 3) := by decide +kernel
theorem d11_init_85 : decode b11_init 85 = .ok (.dup, 1) := by decide +kernel
theorem d11_init_86 : decode b11_init 86 = .ok (.invokespecial 52, 3) := by decide +kernel
theorem d11_init_89 : decode b11_init 89 = .ok (.putfield 53, 3) := by decide +kernel
theorem d11_init_92 : decode b11_init 92 = .ok (.aload_n 0, 1) := by decide +kernel
theorem d11_init_93 : decode b11_init 93 = .ok (.new 57, 3) := by decide +kernel
theorem d11_init_96 : decode b11_init 96 = .ok (.dup, 1) := by decide +kernel
theorem d11_init_97 : decode b11_init 97 = .ok (.invokespecial 59, 3) := by decide +kernel
theorem d11_init_100 : decode b11_init 100 = .ok (.putfield 60, 3) := by decide +kernel
theorem d11_init_103 : decode b11_init 103 = .ok (.aload_n 0, 1) := by decide +kernel
theorem d11_init_104 : decode b11_init 104 = .ok (.new 64, 3) := by decide +kernel
theorem d11_init_107 : decode b11_init 107 = .ok (.dup, 1) := by decide +kernel
theorem d11_init_108 : decode b11_init 108 = .ok (.invokespecial 66, 3) := by decide +kernel
theorem d11_init_111 : decode b11_init 111 = .ok (.putfield 67, 3) := by decide +kernel
theorem d11_init_114 : decode b11_init 114 = .ok (.aload_n 0, 1) := by decide +kernel
theorem d11_init_115 : decode b11_init 115 = .ok (.new 64, 3) := by decide +kernel
theorem d11_init_118 : decode b11_init 118 = .ok (.dup, 1) := by decide +kernel
theorem d11_init_119 : decode b11_init 119 = .ok (.invokespecial 66, 3) := by decide +kernel
theorem d11_init_122 : decode b11_init 122 = .ok (.putfield 71, 3) := by decide +kernel
theorem d11_init_125 : decode b11_init 125 = .ok (.aload_n 0, 1) := by decide +kernel
theorem d11_init_126 : decode b11_init 126 = .ok (.new 74, 3) := by decide +kernel
theorem d11_init_129 : decode b11_init 129 = .ok (.dup, 1) := by decide +kernel
theorem d11_init_130 : decode b11_init 130 = .ok (.invokespecial 76, 3) := by decide +kernel
theorem d11_init_133 : decode b11_init 133 = .ok (.putfield 77, 3) := by decide +kernel
theorem d11_init_136 : decode b11_init 136 = .ok (.aload_n 0, 1) := by decide +kernel
theorem d11_init_137 : decode b11_init 137 = .ok (.new 81, 3) := by decide +kernel
theorem d11_init_140 : decode b11_init 140 = .ok (.dup, 1) := by decide +kernel
theorem d11_init_141 : decode b11_init 141 = .ok (.invokespecial 83, 3) := by decide +kernel
theorem d11_init_144 : decode b11_init 144 = .ok (.putfield 84, 3) := by decide +kernel
theorem d11_init_147 : decode b11_init 147 = .ok (.return_, 1) := by decide +kernel
def cz_11 (cA : Nat → ClassId) (q : Nat) (x : Nat × (Nat × Nat) × Nat × (Nat × Nat) × Nat × (Nat × Nat × Nat × Nat × Nat × Nat × (Nat → Int32)) × Nat × (Nat × Nat × Nat × Nat × Nat × Nat × (Nat → Int32)) × Nat × (Nat × Nat × Nat × Nat × Nat × Nat) × Nat × (Nat × Nat × Nat × Nat × Nat × Nat) × Nat × (Nat × Nat × Nat × Nat) × Nat × (Nat × Nat × Nat) × Nat × (Nat × Nat × Nat) × Nat × (Nat × Nat × Nat × Nat × Nat × Nat) × Nat × (Nat × Nat × Nat × Nat × Nat × Nat) × Nat × (Nat × Nat) × Nat × (Nat × Nat)) : va_W := ((q, .inr (11, [.ref x.1, .ref x.2.2.1, .ref x.2.2.2.2.1, .ref x.2.2.2.2.2.2.1, .ref x.2.2.2.2.2.2.2.2.1, .ref x.2.2.2.2.2.2.2.2.2.2.1, .ref x.2.2.2.2.2.2.2.2.2.2.2.2.1, .ref x.2.2.2.2.2.2.2.2.2.2.2.2.2.2.1, .ref x.2.2.2.2.2.2.2.2.2.2.2.2.2.2.2.2.1, .ref x.2.2.2.2.2.2.2.2.2.2.2.2.2.2.2.2.2.2.1, .ref x.2.2.2.2.2.2.2.2.2.2.2.2.2.2.2.2.2.2.2.2.1, .ref x.2.2.2.2.2.2.2.2.2.2.2.2.2.2.2.2.2.2.2.2.2.2.1, .ref x.2.2.2.2.2.2.2.2.2.2.2.2.2.2.2.2.2.2.2.2.2.2.2.2.1])) :: ((((((((((((cz_6 cA x.1 x.2.1 ++ cz_8 cA x.2.2.1 x.2.2.2.1) ++ cz_5 cA x.2.2.2.2.1 x.2.2.2.2.2.1) ++ cz_5 cA x.2.2.2.2.2.2.1 x.2.2.2.2.2.2.2.1) ++ cz_9 cA x.2.2.2.2.2.2.2.2.1 x.2.2.2.2.2.2.2.2.2.1) ++ cz_9 cA x.2.2.2.2.2.2.2.2.2.2.1 x.2.2.2.2.2.2.2.2.2.2.2.1) ++ cz_0 cA x.2.2.2.2.2.2.2.2.2.2.2.2.1 x.2.2.2.2.2.2.2.2.2.2.2.2.2.1) ++ cz_10 cA x.2.2.2.2.2.2.2.2.2.2.2.2.2.2.1 x.2.2.2.2.2.2.2.2.2.2.2.2.2.2.2.1) ++ cz_2 cA x.2.2.2.2.2.2.2.2.2.2.2.2.2.2.2.2.1 x.2.2.2.2.2.2.2.2.2.2.2.2.2.2.2.2.2.1) ++ cz_3 cA x.2.2.2.2.2.2.2.2.2.2.2.2.2.2.2.2.2.2.1 x.2.2.2.2.2.2.2.2.2.2.2.2.2.2.2.2.2.2.2.1) ++ cz_3 cA x.2.2.2.2.2.2.2.2.2.2.2.2.2.2.2.2.2.2.2.2.1 x.2.2.2.2.2.2.2.2.2.2.2.2.2.2.2.2.2.2.2.2.2.1) ++ cz_4 cA x.2.2.2.2.2.2.2.2.2.2.2.2.2.2.2.2.2.2.2.2.2.2.1 x.2.2.2.2.2.2.2.2.2.2.2.2.2.2.2.2.2.2.2.2.2.2.2.1) ++ cz_1 cA x.2.2.2.2.2.2.2.2.2.2.2.2.2.2.2.2.2.2.2.2.2.2.2.2.1 x.2.2.2.2.2.2.2.2.2.2.2.2.2.2.2.2.2.2.2.2.2.2.2.2.2))
def cp_11 (x : Nat × (Nat × Nat) × Nat × (Nat × Nat) × Nat × (Nat × Nat × Nat × Nat × Nat × Nat × (Nat → Int32)) × Nat × (Nat × Nat × Nat × Nat × Nat × Nat × (Nat → Int32)) × Nat × (Nat × Nat × Nat × Nat × Nat × Nat) × Nat × (Nat × Nat × Nat × Nat × Nat × Nat) × Nat × (Nat × Nat × Nat × Nat) × Nat × (Nat × Nat × Nat) × Nat × (Nat × Nat × Nat) × Nat × (Nat × Nat × Nat × Nat × Nat × Nat) × Nat × (Nat × Nat × Nat × Nat × Nat × Nat) × Nat × (Nat × Nat) × Nat × (Nat × Nat)) : Prop := cp_5 x.2.2.2.2.2.1 ∧ cp_5 x.2.2.2.2.2.2.2.1
theorem mo_11 : Cond.methodLink cn_11 1 Lib.objectInit ∈ ce_cm := ce_cm_of (List.mem_of_getElem? (i := 114) (by decide +kernel)) (by decide +kernel)
theorem mL_11_7 : Cond.classLink cn_11 7 cn_6 ∈ ce_cm := ce_cm_of (List.mem_of_getElem? (i := 117) (by decide +kernel)) (by decide +kernel)
theorem mN_6 : Cond.instantiable cn_6 6 ∈ ce_cm := ce_cm_of (List.mem_of_getElem? (i := 118) (by decide +kernel)) (by decide +kernel)
theorem mc6_init : Cond.code y6_init b6_init 1 none ∈ ce_cm := ce_cm_of (List.mem_of_getElem? (i := 121) (by decide +kernel)) (by decide +kernel)
theorem mi6_init : Cond.instanceMethod y6_init ∈ ce_cm := ce_cm_of (List.mem_of_getElem? (i := 120) (by decide +kernel)) (by decide +kernel)
theorem mL_11_16 : Cond.classLink cn_11 16 cn_8 ∈ ce_cm := ce_cm_of (List.mem_of_getElem? (i := 169) (by decide +kernel)) (by decide +kernel)
theorem mN_8 : Cond.instantiable cn_8 2 ∈ ce_cm := ce_cm_of (List.mem_of_getElem? (i := 170) (by decide +kernel)) (by decide +kernel)
theorem mc8_init : Cond.code y8_init b8_init 1 none ∈ ce_cm := ce_cm_of (List.mem_of_getElem? (i := 173) (by decide +kernel)) (by decide +kernel)
theorem mi8_init : Cond.instanceMethod y8_init ∈ ce_cm := ce_cm_of (List.mem_of_getElem? (i := 172) (by decide +kernel)) (by decide +kernel)
theorem mL_11_23 : Cond.classLink cn_11 23 cn_5 ∈ ce_cm := ce_cm_of (List.mem_of_getElem? (i := 183) (by decide +kernel)) (by decide +kernel)
theorem mN_5 : Cond.instantiable cn_5 11 ∈ ce_cm := ce_cm_of (List.mem_of_getElem? (i := 184) (by decide +kernel)) (by decide +kernel)
theorem ml_11_25 : Cond.methodLink cn_11 25 y5_init ∈ ce_cm := ce_cm_of (List.mem_of_getElem? (i := 185) (by decide +kernel)) (by decide +kernel)
theorem mc5_init : Cond.code y5_init b5_init 1 none ∈ ce_cm := ce_cm_of (List.mem_of_getElem? (i := 187) (by decide +kernel)) (by decide +kernel)
theorem mi5_init : Cond.instanceMethod y5_init ∈ ce_cm := ce_cm_of (List.mem_of_getElem? (i := 186) (by decide +kernel)) (by decide +kernel)
theorem mL_11_33 : Cond.classLink cn_11 33 cn_9 ∈ ce_cm := ce_cm_of (List.mem_of_getElem? (i := 264) (by decide +kernel)) (by decide +kernel)
theorem mN_9 : Cond.instantiable cn_9 9 ∈ ce_cm := ce_cm_of (List.mem_of_getElem? (i := 265) (by decide +kernel)) (by decide +kernel)
theorem mc9_init : Cond.code y9_init b9_init 1 none ∈ ce_cm := ce_cm_of (List.mem_of_getElem? (i := 268) (by decide +kernel)) (by decide +kernel)
theorem mi9_init : Cond.instanceMethod y9_init ∈ ce_cm := ce_cm_of (List.mem_of_getElem? (i := 267) (by decide +kernel)) (by decide +kernel)
theorem mL_11_43 : Cond.classLink cn_11 43 cn_0 ∈ ce_cm := ce_cm_of (List.mem_of_getElem? (i := 302) (by decide +kernel)) (by decide +kernel)
theorem mN_0 : Cond.instantiable cn_0 5 ∈ ce_cm := ce_cm_of (List.mem_of_getElem? (i := 303) (by decide +kernel)) (by decide +kernel)
theorem mc0_init : Cond.code y0_init b0_init 1 none ∈ ce_cm := ce_cm_of (List.mem_of_getElem? (i := 306) (by decide +kernel)) (by decide +kernel)
theorem mi0_init : Cond.instanceMethod y0_init ∈ ce_cm := ce_cm_of (List.mem_of_getElem? (i := 305) (by decide +kernel)) (by decide +kernel)
theorem mL_11_50 : Cond.classLink cn_11 50 cn_10 ∈ ce_cm := ce_cm_of (List.mem_of_getElem? (i := 325) (by decide +kernel)) (by decide +kernel)
theorem mN_10 : Cond.instantiable cn_10 4 ∈ ce_cm := ce_cm_of (List.mem_of_getElem? (i := 326) (by decide +kernel)) (by decide +kernel)
theorem mc10_init : Cond.code y10_init b10_init 1 none ∈ ce_cm := ce_cm_of (List.mem_of_getElem? (i := 329) (by decide +kernel)) (by decide +kernel)
theorem mi10_init : Cond.instanceMethod y10_init ∈ ce_cm := ce_cm_of (List.mem_of_getElem? (i := 328) (by decide +kernel)) (by decide +kernel)
theorem mL_11_57 : Cond.classLink cn_11 57 cn_2 ∈ ce_cm := ce_cm_of (List.mem_of_getElem? (i := 349) (by decide +kernel)) (by decide +kernel)
theorem mN_2 : Cond.instantiable cn_2 5 ∈ ce_cm := ce_cm_of (List.mem_of_getElem? (i := 350) (by decide +kernel)) (by decide +kernel)
theorem mc2_init : Cond.code y2_init b2_init 1 none ∈ ce_cm := ce_cm_of (List.mem_of_getElem? (i := 353) (by decide +kernel)) (by decide +kernel)
theorem mi2_init : Cond.instanceMethod y2_init ∈ ce_cm := ce_cm_of (List.mem_of_getElem? (i := 352) (by decide +kernel)) (by decide +kernel)
theorem mL_11_64 : Cond.classLink cn_11 64 cn_3 ∈ ce_cm := ce_cm_of (List.mem_of_getElem? (i := 373) (by decide +kernel)) (by decide +kernel)
theorem mN_3 : Cond.instantiable cn_3 6 ∈ ce_cm := ce_cm_of (List.mem_of_getElem? (i := 374) (by decide +kernel)) (by decide +kernel)
theorem mc3_init : Cond.code y3_init b3_init 1 none ∈ ce_cm := ce_cm_of (List.mem_of_getElem? (i := 377) (by decide +kernel)) (by decide +kernel)
theorem mi3_init : Cond.instanceMethod y3_init ∈ ce_cm := ce_cm_of (List.mem_of_getElem? (i := 376) (by decide +kernel)) (by decide +kernel)
theorem mL_11_74 : Cond.classLink cn_11 74 cn_4 ∈ ce_cm := ce_cm_of (List.mem_of_getElem? (i := 402) (by decide +kernel)) (by decide +kernel)
theorem mN_4 : Cond.instantiable cn_4 2 ∈ ce_cm := ce_cm_of (List.mem_of_getElem? (i := 403) (by decide +kernel)) (by decide +kernel)
theorem mc4_init : Cond.code y4_init b4_init 1 none ∈ ce_cm := ce_cm_of (List.mem_of_getElem? (i := 406) (by decide +kernel)) (by decide +kernel)
theorem mi4_init : Cond.instanceMethod y4_init ∈ ce_cm := ce_cm_of (List.mem_of_getElem? (i := 405) (by decide +kernel)) (by decide +kernel)
theorem mL_11_81 : Cond.classLink cn_11 81 cn_1 ∈ ce_cm := ce_cm_of (List.mem_of_getElem? (i := 416) (by decide +kernel)) (by decide +kernel)
theorem mN_1 : Cond.instantiable cn_1 4 ∈ ce_cm := ce_cm_of (List.mem_of_getElem? (i := 417) (by decide +kernel)) (by decide +kernel)
theorem mc1_init : Cond.code y1_init b1_init 1 none ∈ ce_cm := ce_cm_of (List.mem_of_getElem? (i := 420) (by decide +kernel)) (by decide +kernel)
theorem mi1_init : Cond.instanceMethod y1_init ∈ ce_cm := ce_cm_of (List.mem_of_getElem? (i := 419) (by decide +kernel)) (by decide +kernel)
set_option maxRecDepth 20000 in
set_option maxHeartbeats 4000000 in
theorem ci_11 (l : Launch) (D : va_G) (cA : Nat → ClassId) (aK aV : Nat → Nat) (B0 : Nat) (pre : va_W) (q : Nat) : cx_Ct l D cA B0 (ce_St aK aV B0) y11_init b11_init 1 3 60 67 1708 [.ref q] (pre ++ [(q, .inr (11, [.null, .null, .null, .null, .null, .null, .null, .null, .null, .null, .null, .null, .null]))]) (fun x => cp_11 x) (fun x => pre ++ cz_11 cA q x) := by
  refine cx_enter (by decide) rfl rfl (Nat.le_of_ble_eq_true rfl) (fun p e0 s m below meth c ls C hH hl => ?_)
  have hl : lv_has ls 1 [(0, .ref q)] := hl
  have hx := C.1
  have hb := C.2.1
  refine lv_aload_n hx hb d11_init_0 rfl (lv_at hl 0 rfl) ?_
  refine cx_obj C mo_11 mI_obj mC_obj hl.1 d11_init_1 (Nat.le_of_ble_eq_true rfl) (Nat.le_of_ble_eq_true rfl) ?_
  refine lv_aload_n hx hb d11_init_4 rfl (lv_at hl 0 rfl) ?_
  refine cx_new C hH (ci := 6) (fs := [.null, .int 0, .int 0, .int 0, .int 0, .int 0]) rfl fw_6 fo_6 mL_11_7 mN_6 mI_6 (by decide +kernel) (Nat.le_of_ble_eq_true rfl) (Nat.le_of_ble_eq_true rfl) d11_init_5 (fun a5 H hH => ?_)
  refine lv_dup hx hb d11_init_8 rfl ?_
  refine cx_callIN (rest := [.ref a5, .ref q]) C (ce_sok aK aV B0) hH (ci_6 l D cA aK aV B0 (pre ++ [(q, .inr (11, [.null, .null, .null, .null, .null, .null, .null, .null, .null, .null, .null, .null, .null]))]) a5) rfl mc6_init (ce_nwW C.2.2.2.2.2.2.2.2.2.1 0 rfl) mi6_init mI_6 (by decide) ⟨Nat.le_of_ble_eq_true rfl, Nat.le_of_ble_eq_true rfl⟩ ⟨Nat.le_of_ble_eq_true rfl, Nat.le_of_ble_eq_true rfl⟩ hl.1 (Nat.le_of_ble_eq_true rfl) d11_init_9 (fun x9 H locs px9 hH => ?_)
  rw [List.append_assoc] at hH
  have hH : cx_H D B0 s (pre ++ ((q, .inr (11, [.null, .null, .null, .null, .null, .null, .null, .null, .null, .null, .null, .null, .null])) :: cz_6 cA a5 x9)) H locs := hH
  refine cx_put C hH (i := 0) (ci := 11) (j := 0) (N := 13) (fy := fy_11) (v := .ref a5) rfl rfl fw_11 fo_11 fn_11 (by decide) fl_11_10 rfl rfl rfl (by decide) d11_init_12 (fun H locs hH => ?_)
  have hH : cx_H D B0 s (pre ++ ((q, .inr (11, [.ref a5, .null, .null, .null, .null, .null, .null, .null, .null, .null, .null, .null, .null])) :: cz_6 cA a5 x9)) H locs := hH
  refine lv_aload_n hx hb d11_init_15 rfl (lv_at hl 0 rfl) ?_
  refine cx_new C hH (ci := 8) (fs := [.null, .null]) rfl fw_8 fo_8 mL_11_16 mN_8 mI_8 (by decide +kernel) (Nat.le_of_ble_eq_true rfl) (Nat.le_of_ble_eq_true rfl) d11_init_16 (fun a16 H hH => ?_)
  refine lv_dup hx hb d11_init_19 rfl ?_
  refine cx_callIN (rest := [.ref a16, .ref q]) C (ce_sok aK aV B0) hH (ci_8 l D cA aK aV B0 (pre ++ ((q, .inr (11, [.ref a5, .null, .null, .null, .null, .null, .null, .null, .null, .null, .null, .null, .null])) :: cz_6 cA a5 x9)) a16) rfl mc8_init (ce_nwW C.2.2.2.2.2.2.2.2.2.1 2 rfl) mi8_init mI_8 (by decide) ⟨Nat.le_of_ble_eq_true rfl, Nat.le_of_ble_eq_true rfl⟩ ⟨Nat.le_of_ble_eq_true rfl, Nat.le_of_ble_eq_true rfl⟩ hl.1 (Nat.le_of_ble_eq_true rfl) d11_init_20 (fun x20 H locs px20 hH => ?_)
  rw [List.append_assoc] at hH
  have hH : cx_H D B0 s (pre ++ ((q, .inr (11, [.ref a5, .null, .null, .null, .null, .null, .null, .null, .null, .null, .null, .null, .null])) :: (cz_6 cA a5 x9 ++ cz_8 cA a16 x20))) H locs := by rw [List.cons_append] at hH; exact hH
  refine cx_put C hH (i := 0) (ci := 11) (j := 1) (N := 13) (fy := fy_11) (v := .ref a16) rfl rfl fw_11 fo_11 fn_11 (by decide) fl_11_19 rfl rfl rfl (by decide) d11_init_23 (fun H locs hH => ?_)
  have hH : cx_H D B0 s (pre ++ ((q, .inr (11, [.ref a5, .ref a16, .null, .null, .null, .null, .null, .null, .null, .null, .null, .null, .null])) :: (cz_6 cA a5 x9 ++ cz_8 cA a16 x20))) H locs := hH
  refine lv_aload_n hx hb d11_init_26 rfl (lv_at hl 0 rfl) ?_
  refine cx_new C hH (ci := 5) (fs := [.int 0, .int 0, .int 0, .int 0, .int 0, .null, .null, .null, .null, .null, .null]) rfl fw_5 fo_5 mL_11_23 mN_5 mI_5 (by decide +kernel) (Nat.le_of_ble_eq_true rfl) (Nat.le_of_ble_eq_true rfl) d11_init_27 (fun a27 H hH => ?_)
  refine lv_dup hx hb d11_init_30 rfl ?_
  refine cx_callI (rest := [.ref a27, .ref q]) C (ce_sok aK aV B0) hH (ci_5 l D cA aK aV B0 (pre ++ ((q, .inr (11, [.ref a5, .ref a16, .null, .null, .null, .null, .null, .null, .null, .null, .null, .null, .null])) :: (cz_6 cA a5 x9 ++ cz_8 cA a16 x20))) a27) rfl mc5_init ml_11_25 mi5_init mI_5 (by decide) ⟨Nat.le_of_ble_eq_true rfl, Nat.le_of_ble_eq_true rfl⟩ ⟨Nat.le_of_ble_eq_true rfl, Nat.le_of_ble_eq_true rfl⟩ hl.1 (Nat.le_of_ble_eq_true rfl) d11_init_31 (fun x31 H locs px31 hH => ?_)
  rw [List.append_assoc] at hH
  have hH : cx_H D B0 s (pre ++ ((q, .inr (11, [.ref a5, .ref a16, .null, .null, .null, .null, .null, .null, .null, .null, .null, .null, .null])) :: ((cz_6 cA a5 x9 ++ cz_8 cA a16 x20) ++ cz_5 cA a27 x31))) H locs := by rw [List.cons_append] at hH; exact hH
  refine cx_put C hH (i := 0) (ci := 11) (j := 2) (N := 13) (fy := fy_11) (v := .ref a27) rfl rfl fw_11 fo_11 fn_11 (by decide) fl_11_26 rfl rfl rfl (by decide) d11_init_34 (fun H locs hH => ?_)
  have hH : cx_H D B0 s (pre ++ ((q, .inr (11, [.ref a5, .ref a16, .ref a27, .null, .null, .null, .null, .null, .null, .null, .null, .null, .null])) :: ((cz_6 cA a5 x9 ++ cz_8 cA a16 x20) ++ cz_5 cA a27 x31))) H locs := hH
  refine lv_aload_n hx hb d11_init_37 rfl (lv_at hl 0 rfl) ?_
  refine cx_new C hH (ci := 5) (fs := [.int 0, .int 0, .int 0, .int 0, .int 0, .null, .null, .null, .null, .null, .null]) rfl fw_5 fo_5 mL_11_23 mN_5 mI_5 (by decide +kernel) (Nat.le_of_ble_eq_true rfl) (Nat.le_of_ble_eq_true rfl) d11_init_38 (fun a38 H hH => ?_)
  refine lv_dup hx hb d11_init_41 rfl ?_
  refine cx_callI (rest := [.ref a38, .ref q]) C (ce_sok aK aV B0) hH (ci_5 l D cA aK aV B0 (pre ++ ((q, .inr (11, [.ref a5, .ref a16, .ref a27, .null, .null, .null, .null, .null, .null, .null, .null, .null, .null])) :: ((cz_6 cA a5 x9 ++ cz_8 cA a16 x20) ++ cz_5 cA a27 x31))) a38) rfl mc5_init ml_11_25 mi5_init mI_5 (by decide) ⟨Nat.le_of_ble_eq_true rfl, Nat.le_of_ble_eq_true rfl⟩ ⟨Nat.le_of_ble_eq_true rfl, Nat.le_of_ble_eq_true rfl⟩ hl.1 (Nat.le_of_ble_eq_true rfl) d11_init_42 (fun x42 H locs px42 hH => ?_)
  rw [List.append_assoc] at hH
  have hH : cx_H D B0 s (pre ++ ((q, .inr (11, [.ref a5, .ref a16, .ref a27, .null, .null, .null, .null, .null, .null, .null, .null, .null, .null])) :: (((cz_6 cA a5 x9 ++ cz_8 cA a16 x20) ++ cz_5 cA a27 x31) ++ cz_5 cA a38 x42))) H locs := by rw [List.cons_append] at hH; exact hH
  refine cx_put C hH (i := 0) (ci := 11) (j := 3) (N := 13) (fy := fy_11) (v := .ref a38) rfl rfl fw_11 fo_11 fn_11 (by decide) fl_11_30 rfl rfl rfl (by decide) d11_init_45 (fun H locs hH => ?_)
  have hH : cx_H D B0 s (pre ++ ((q, .inr (11, [.ref a5, .ref a16, .ref a27, .ref a38, .null, .null, .null, .null, .null, .null, .null, .null, .null])) :: (((cz_6 cA a5 x9 ++ cz_8 cA a16 x20) ++ cz_5 cA a27 x31) ++ cz_5 cA a38 x42))) H locs := hH
  refine lv_aload_n hx hb d11_init_48 rfl (lv_at hl 0 rfl) ?_
  refine cx_new C hH (ci := 9) (fs := [.int 0, .null, .null, .null, .null, .null, .null, .int 0, .int 0]) rfl fw_9 fo_9 mL_11_33 mN_9 mI_9 (by decide +kernel) (Nat.le_of_ble_eq_true rfl) (Nat.le_of_ble_eq_true rfl) d11_init_49 (fun a49 H hH => ?_)
  refine lv_dup hx hb d11_init_52 rfl ?_
  refine cx_callIN (rest := [.ref a49, .ref q]) C (ce_sok aK aV B0) hH (ci_9 l D cA aK aV B0 (pre ++ ((q, .inr (11, [.ref a5, .ref a16, .ref a27, .ref a38, .null, .null, .null, .null, .null, .null, .null, .null, .null])) :: (((cz_6 cA a5 x9 ++ cz_8 cA a16 x20) ++ cz_5 cA a27 x31) ++ cz_5 cA a38 x42))) a49) rfl mc9_init (ce_nwW C.2.2.2.2.2.2.2.2.2.1 3 rfl) mi9_init mI_9 (by decide) ⟨Nat.le_of_ble_eq_true rfl, Nat.le_of_ble_eq_true rfl⟩ ⟨Nat.le_of_ble_eq_true rfl, Nat.le_of_ble_eq_true rfl⟩ hl.1 (Nat.le_of_ble_eq_true rfl) d11_init_53 (fun x53 H locs px53 hH => ?_)
  rw [List.append_assoc] at hH
  have hH : cx_H D B0 s (pre ++ ((q, .inr (11, [.ref a5, .ref a16, .ref a27, .ref a38, .null, .null, .null, .null, .null, .null, .null, .null, .null])) :: ((((cz_6 cA a5 x9 ++ cz_8 cA a16 x20) ++ cz_5 cA a27 x31) ++ cz_5 cA a38 x42) ++ cz_9 cA a49 x53))) H locs := by rw [List.cons_append] at hH; exact hH
  refine cx_put C hH (i := 0) (ci := 11) (j := 4) (N := 13) (fy := fy_11) (v := .ref a49) rfl rfl fw_11 fo_11 fn_11 (by decide) fl_11_36 rfl rfl rfl (by decide) d11_init_56 (fun H locs hH => ?_)
  have hH : cx_H D B0 s (pre ++ ((q, .inr (11, [.ref a5, .ref a16, .ref a27, .ref a38, .ref a49, .null, .null, .null, .null, .null, .null, .null, .null])) :: ((((cz_6 cA a5 x9 ++ cz_8 cA a16 x20) ++ cz_5 cA a27 x31) ++ cz_5 cA a38 x42) ++ cz_9 cA a49 x53))) H locs := hH
  refine lv_aload_n hx hb d11_init_59 rfl (lv_at hl 0 rfl) ?_
  refine cx_new C hH (ci := 9) (fs := [.int 0, .null, .null, .null, .null, .null, .null, .int 0, .int 0]) rfl fw_9 fo_9 mL_11_33 mN_9 mI_9 (by decide +kernel) (Nat.le_of_ble_eq_true rfl) (Nat.le_of_ble_eq_true rfl) d11_init_60 (fun a60 H hH => ?_)
  refine lv_dup hx hb d11_init_63 rfl ?_
  refine cx_callIN (rest := [.ref a60, .ref q]) C (ce_sok aK aV B0) hH (ci_9 l D cA aK aV B0 (pre ++ ((q, .inr (11, [.ref a5, .ref a16, .ref a27, .ref a38, .ref a49, .null, .null, .null, .null, .null, .null, .null, .null])) :: ((((cz_6 cA a5 x9 ++ cz_8 cA a16 x20) ++ cz_5 cA a27 x31) ++ cz_5 cA a38 x42) ++ cz_9 cA a49 x53))) a60) rfl mc9_init (ce_nwW C.2.2.2.2.2.2.2.2.2.1 3 rfl) mi9_init mI_9 (by decide) ⟨Nat.le_of_ble_eq_true rfl, Nat.le_of_ble_eq_true rfl⟩ ⟨Nat.le_of_ble_eq_true rfl, Nat.le_of_ble_eq_true rfl⟩ hl.1 (Nat.le_of_ble_eq_true rfl) d11_init_64 (fun x64 H locs px64 hH => ?_)
  rw [List.append_assoc] at hH
  have hH : cx_H D B0 s (pre ++ ((q, .inr (11, [.ref a5, .ref a16, .ref a27, .ref a38, .ref a49, .null, .null, .null, .null, .null, .null, .null, .null])) :: (((((cz_6 cA a5 x9 ++ cz_8 cA a16 x20) ++ cz_5 cA a27 x31) ++ cz_5 cA a38 x42) ++ cz_9 cA a49 x53) ++ cz_9 cA a60 x64))) H locs := by rw [List.cons_append] at hH; exact hH
  refine cx_put C hH (i := 0) (ci := 11) (j := 5) (N := 13) (fy := fy_11) (v := .ref a60) rfl rfl fw_11 fo_11 fn_11 (by decide) fl_11_40 rfl rfl rfl (by decide) d11_init_67 (fun H locs hH => ?_)
  have hH : cx_H D B0 s (pre ++ ((q, .inr (11, [.ref a5, .ref a16, .ref a27, .ref a38, .ref a49, .ref a60, .null, .null, .null, .null, .null, .null, .null])) :: (((((cz_6 cA a5 x9 ++ cz_8 cA a16 x20) ++ cz_5 cA a27 x31) ++ cz_5 cA a38 x42) ++ cz_9 cA a49 x53) ++ cz_9 cA a60 x64))) H locs := hH
  refine lv_aload_n hx hb d11_init_70 rfl (lv_at hl 0 rfl) ?_
  refine cx_new C hH (ci := 0) (fs := [.int 0, .null, .null, .null, .null]) rfl fw_0 fo_0 mL_11_43 mN_0 mI_0 (by decide +kernel) (Nat.le_of_ble_eq_true rfl) (Nat.le_of_ble_eq_true rfl) d11_init_71 (fun a71 H hH => ?_)
  refine lv_dup hx hb d11_init_74 rfl ?_
  refine cx_callIN (rest := [.ref a71, .ref q]) C (ce_sok aK aV B0) hH (ci_0 l D cA aK aV B0 (pre ++ ((q, .inr (11, [.ref a5, .ref a16, .ref a27, .ref a38, .ref a49, .ref a60, .null, .null, .null, .null, .null, .null, .null])) :: (((((cz_6 cA a5 x9 ++ cz_8 cA a16 x20) ++ cz_5 cA a27 x31) ++ cz_5 cA a38 x42) ++ cz_9 cA a49 x53) ++ cz_9 cA a60 x64))) a71) rfl mc0_init (ce_nwW C.2.2.2.2.2.2.2.2.2.1 4 rfl) mi0_init mI_0 (by decide) ⟨Nat.le_of_ble_eq_true rfl, Nat.le_of_ble_eq_true rfl⟩ ⟨Nat.le_of_ble_eq_true rfl, Nat.le_of_ble_eq_true rfl⟩ hl.1 (Nat.le_of_ble_eq_true rfl) d11_init_75 (fun x75 H locs px75 hH => ?_)
  rw [List.append_assoc] at hH
  have hH : cx_H D B0 s (pre ++ ((q, .inr (11, [.ref a5, .ref a16, .ref a27, .ref a38, .ref a49, .ref a60, .null, .null, .null, .null, .null, .null, .null])) :: ((((((cz_6 cA a5 x9 ++ cz_8 cA a16 x20) ++ cz_5 cA a27 x31) ++ cz_5 cA a38 x42) ++ cz_9 cA a49 x53) ++ cz_9 cA a60 x64) ++ cz_0 cA a71 x75))) H locs := by rw [List.cons_append] at hH; exact hH
  refine cx_put C hH (i := 0) (ci := 11) (j := 6) (N := 13) (fy := fy_11) (v := .ref a71) rfl rfl fw_11 fo_11 fn_11 (by decide) fl_11_46 rfl rfl rfl (by decide) d11_init_78 (fun H locs hH => ?_)
  have hH : cx_H D B0 s (pre ++ ((q, .inr (11, [.ref a5, .ref a16, .ref a27, .ref a38, .ref a49, .ref a60, .ref a71, .null, .null, .null, .null, .null, .null])) :: ((((((cz_6 cA a5 x9 ++ cz_8 cA a16 x20) ++ cz_5 cA a27 x31) ++ cz_5 cA a38 x42) ++ cz_9 cA a49 x53) ++ cz_9 cA a60 x64) ++ cz_0 cA a71 x75))) H locs := hH
  refine lv_aload_n hx hb d11_init_81 rfl (lv_at hl 0 rfl) ?_
  refine cx_new C hH (ci := 10) (fs := [.int 0, .null, .null, .null]) rfl fw_10 fo_10 mL_11_50 mN_10 mI_10 (by decide +kernel) (Nat.le_of_ble_eq_true rfl) (Nat.le_of_ble_eq_true rfl) d11_init_82 (fun a82 H hH => ?_)
  refine lv_dup hx hb d11_init_85 rfl ?_
  refine cx_callIN (rest := [.ref a82, .ref q]) C (ce_sok aK aV B0) hH (ci_10 l D cA aK aV B0 (pre ++ ((q, .inr (11, [.ref a5, .ref a16, .ref a27, .ref a38, .ref a49, .ref a60, .ref a71, .null, .null, .null, .null, .null, .null])) :: ((((((cz_6 cA a5 x9 ++ cz_8 cA a16 x20) ++ cz_5 cA a27 x31) ++ cz_5 cA a38 x42) ++ cz_9 cA a49 x53) ++ cz_9 cA a60 x64) ++ cz_0 cA a71 x75))) a82) rfl mc10_init (ce_nwW C.2.2.2.2.2.2.2.2.2.1 5 rfl) mi10_init mI_10 (by decide) ⟨Nat.le_of_ble_eq_true rfl, Nat.le_of_ble_eq_true rfl⟩ ⟨Nat.le_of_ble_eq_true rfl, Nat.le_of_ble_eq_true rfl⟩ hl.1 (Nat.le_of_ble_eq_true rfl) d11_init_86 (fun x86 H locs px86 hH => ?_)
  rw [List.append_assoc] at hH
  have hH : cx_H D B0 s (pre ++ ((q, .inr (11, [.ref a5, .ref a16, .ref a27, .ref a38, .ref a49, .ref a60, .ref a71, .null, .null, .null, .null, .null, .null])) :: (((((((cz_6 cA a5 x9 ++ cz_8 cA a16 x20) ++ cz_5 cA a27 x31) ++ cz_5 cA a38 x42) ++ cz_9 cA a49 x53) ++ cz_9 cA a60 x64) ++ cz_0 cA a71 x75) ++ cz_10 cA a82 x86))) H locs := by rw [List.cons_append] at hH; exact hH
  refine cx_put C hH (i := 0) (ci := 11) (j := 7) (N := 13) (fy := fy_11) (v := .ref a82) rfl rfl fw_11 fo_11 fn_11 (by decide) fl_11_53 rfl rfl rfl (by decide) d11_init_89 (fun H locs hH => ?_)
  have hH : cx_H D B0 s (pre ++ ((q, .inr (11, [.ref a5, .ref a16, .ref a27, .ref a38, .ref a49, .ref a60, .ref a71, .ref a82, .null, .null, .null, .null, .null])) :: (((((((cz_6 cA a5 x9 ++ cz_8 cA a16 x20) ++ cz_5 cA a27 x31) ++ cz_5 cA a38 x42) ++ cz_9 cA a49 x53) ++ cz_9 cA a60 x64) ++ cz_0 cA a71 x75) ++ cz_10 cA a82 x86))) H locs := hH
  refine lv_aload_n hx hb d11_init_92 rfl (lv_at hl 0 rfl) ?_
  refine cx_new C hH (ci := 2) (fs := [.int 0, .int 0, .null, .null, .null]) rfl fw_2 fo_2 mL_11_57 mN_2 mI_2 (by decide +kernel) (Nat.le_of_ble_eq_true rfl) (Nat.le_of_ble_eq_true rfl) d11_init_93 (fun a93 H hH => ?_)
  refine lv_dup hx hb d11_init_96 rfl ?_
  refine cx_callIN (rest := [.ref a93, .ref q]) C (ce_sok aK aV B0) hH (ci_2 l D cA aK aV B0 (pre ++ ((q, .inr (11, [.ref a5, .ref a16, .ref a27, .ref a38, .ref a49, .ref a60, .ref a71, .ref a82, .null, .null, .null, .null, .null])) :: (((((((cz_6 cA a5 x9 ++ cz_8 cA a16 x20) ++ cz_5 cA a27 x31) ++ cz_5 cA a38 x42) ++ cz_9 cA a49 x53) ++ cz_9 cA a60 x64) ++ cz_0 cA a71 x75) ++ cz_10 cA a82 x86))) a93) rfl mc2_init (ce_nwW C.2.2.2.2.2.2.2.2.2.1 6 rfl) mi2_init mI_2 (by decide) ⟨Nat.le_of_ble_eq_true rfl, Nat.le_of_ble_eq_true rfl⟩ ⟨Nat.le_of_ble_eq_true rfl, Nat.le_of_ble_eq_true rfl⟩ hl.1 (Nat.le_of_ble_eq_true rfl) d11_init_97 (fun x97 H locs px97 hH => ?_)
  rw [List.append_assoc] at hH
  have hH : cx_H D B0 s (pre ++ ((q, .inr (11, [.ref a5, .ref a16, .ref a27, .ref a38, .ref a49, .ref a60, .ref a71, .ref a82, .null, .null, .null, .null, .null])) :: ((((((((cz_6 cA a5 x9 ++ cz_8 cA a16 x20) ++ cz_5 cA a27 x31) ++ cz_5 cA a38 x42) ++ cz_9 cA a49 x53) ++ cz_9 cA a60 x64) ++ cz_0 cA a71 x75) ++ cz_10 cA a82 x86) ++ cz_2 cA a93 x97))) H locs := by rw [List.cons_append] at hH; exact hH
  refine cx_put C hH (i := 0) (ci := 11) (j := 8) (N := 13) (fy := fy_11) (v := .ref a93) rfl rfl fw_11 fo_11 fn_11 (by decide) fl_11_60 rfl rfl rfl (by decide) d11_init_100 (fun H locs hH => ?_)
  have hH : cx_H D B0 s (pre ++ ((q, .inr (11, [.ref a5, .ref a16, .ref a27, .ref a38, .ref a49, .ref a60, .ref a71, .ref a82, .ref a93, .null, .null, .null, .null])) :: ((((((((cz_6 cA a5 x9 ++ cz_8 cA a16 x20) ++ cz_5 cA a27 x31) ++ cz_5 cA a38 x42) ++ cz_9 cA a49 x53) ++ cz_9 cA a60 x64) ++ cz_0 cA a71 x75) ++ cz_10 cA a82 x86) ++ cz_2 cA a93 x97))) H locs := hH
  refine lv_aload_n hx hb d11_init_103 rfl (lv_at hl 0 rfl) ?_
  refine cx_new C hH (ci := 3) (fs := [.null, .null, .null, .null, .null, .null]) rfl fw_3 fo_3 mL_11_64 mN_3 mI_3 (by decide +kernel) (Nat.le_of_ble_eq_true rfl) (Nat.le_of_ble_eq_true rfl) d11_init_104 (fun a104 H hH => ?_)
  refine lv_dup hx hb d11_init_107 rfl ?_
  refine cx_callIN (rest := [.ref a104, .ref q]) C (ce_sok aK aV B0) hH (ci_3 l D cA aK aV B0 (pre ++ ((q, .inr (11, [.ref a5, .ref a16, .ref a27, .ref a38, .ref a49, .ref a60, .ref a71, .ref a82, .ref a93, .null, .null, .null, .null])) :: ((((((((cz_6 cA a5 x9 ++ cz_8 cA a16 x20) ++ cz_5 cA a27 x31) ++ cz_5 cA a38 x42) ++ cz_9 cA a49 x53) ++ cz_9 cA a60 x64) ++ cz_0 cA a71 x75) ++ cz_10 cA a82 x86) ++ cz_2 cA a93 x97))) a104) rfl mc3_init (ce_nwW C.2.2.2.2.2.2.2.2.2.1 7 rfl) mi3_init mI_3 (by decide) ⟨Nat.le_of_ble_eq_true rfl, Nat.le_of_ble_eq_true rfl⟩ ⟨Nat.le_of_ble_eq_true rfl, Nat.le_of_ble_eq_true rfl⟩ hl.1 (Nat.le_of_ble_eq_true rfl) d11_init_108 (fun x108 H locs px108 hH => ?_)
  rw [List.append_assoc] at hH
  have hH : cx_H D B0 s (pre ++ ((q, .inr (11, [.ref a5, .ref a16, .ref a27, .ref a38, .ref a49, .ref a60, .ref a71, .ref a82, .ref a93, .null, .null, .null, .null])) :: (((((((((cz_6 cA a5 x9 ++ cz_8 cA a16 x20) ++ cz_5 cA a27 x31) ++ cz_5 cA a38 x42) ++ cz_9 cA a49 x53) ++ cz_9 cA a60 x64) ++ cz_0 cA a71 x75) ++ cz_10 cA a82 x86) ++ cz_2 cA a93 x97) ++ cz_3 cA a104 x108))) H locs := by rw [List.cons_append] at hH; exact hH
  refine cx_put C hH (i := 0) (ci := 11) (j := 9) (N := 13) (fy := fy_11) (v := .ref a104) rfl rfl fw_11 fo_11 fn_11 (by decide) fl_11_67 rfl rfl rfl (by decide) d11_init_111 (fun H locs hH => ?_)
  have hH : cx_H D B0 s (pre ++ ((q, .inr (11, [.ref a5, .ref a16, .ref a27, .ref a38, .ref a49, .ref a60, .ref a71, .ref a82, .ref a93, .ref a104, .null, .null, .null])) :: (((((((((cz_6 cA a5 x9 ++ cz_8 cA a16 x20) ++ cz_5 cA a27 x31) ++ cz_5 cA a38 x42) ++ cz_9 cA a49 x53) ++ cz_9 cA a60 x64) ++ cz_0 cA a71 x75) ++ cz_10 cA a82 x86) ++ cz_2 cA a93 x97) ++ cz_3 cA a104 x108))) H locs := hH
  refine lv_aload_n hx hb d11_init_114 rfl (lv_at hl 0 rfl) ?_
  refine cx_new C hH (ci := 3) (fs := [.null, .null, .null, .null, .null, .null]) rfl fw_3 fo_3 mL_11_64 mN_3 mI_3 (by decide +kernel) (Nat.le_of_ble_eq_true rfl) (Nat.le_of_ble_eq_true rfl) d11_init_115 (fun a115 H hH => ?_)
  refine lv_dup hx hb d11_init_118 rfl ?_
  refine cx_callIN (rest := [.ref a115, .ref q]) C (ce_sok aK aV B0) hH (ci_3 l D cA aK aV B0 (pre ++ ((q, .inr (11, [.ref a5, .ref a16, .ref a27, .ref a38, .ref a49, .ref a60, .ref a71, .ref a82, .ref a93, .ref a104, .null, .null, .null])) :: (((((((((cz_6 cA a5 x9 ++ cz_8 cA a16 x20) ++ cz_5 cA a27 x31) ++ cz_5 cA a38 x42) ++ cz_9 cA a49 x53) ++ cz_9 cA a60 x64) ++ cz_0 cA a71 x75) ++ cz_10 cA a82 x86) ++ cz_2 cA a93 x97) ++ cz_3 cA a104 x108))) a115) rfl mc3_init (ce_nwW C.2.2.2.2.2.2.2.2.2.1 7 rfl) mi3_init mI_3 (by decide) ⟨Nat.le_of_ble_eq_true rfl, Nat.le_of_ble_eq_true rfl⟩ ⟨Nat.le_of_ble_eq_true rfl, Nat.le_of_ble_eq_true rfl⟩ hl.1 (Nat.le_of_ble_eq_true rfl) d11_init_119 (fun x119 H locs px119 hH => ?_)
  rw [List.append_assoc] at hH
  have hH : cx_H D B0 s (pre ++ ((q, .inr (11, [.ref a5, .ref a16, .ref a27, .ref a38, .ref a49, .ref a60, .ref a71, .ref a82, .ref a93, .ref a104, .null, .null, .null])) :: ((((((((((cz_6 cA a5 x9 ++ cz_8 cA a16 x20) ++ cz_5 cA a27 x31) ++ cz_5 cA a38 x42) ++ cz_9 cA a49 x53) ++ cz_9 cA a60 x64) ++ cz_0 cA a71 x75) ++ cz_10 cA a82 x86) ++ cz_2 cA a93 x97) ++ cz_3 cA a104 x108) ++ cz_3 cA a115 x119))) H locs := by rw [List.cons_append] at hH; exact hH
  refine cx_put C hH (i := 0) (ci := 11) (j := 10) (N := 13) (fy := fy_11) (v := .ref a115) rfl rfl fw_11 fo_11 fn_11 (by decide) fl_11_71 rfl rfl rfl (by decide) d11_init_122 (fun H locs hH => ?_)
  have hH : cx_H D B0 s (pre ++ ((q, .inr (11, [.ref a5, .ref a16, .ref a27, .ref a38, .ref a49, .ref a60, .ref a71, .ref a82, .ref a93, .ref a104, .ref a115, .null, .null])) :: ((((((((((cz_6 cA a5 x9 ++ cz_8 cA a16 x20) ++ cz_5 cA a27 x31) ++ cz_5 cA a38 x42) ++ cz_9 cA a49 x53) ++ cz_9 cA a60 x64) ++ cz_0 cA a71 x75) ++ cz_10 cA a82 x86) ++ cz_2 cA a93 x97) ++ cz_3 cA a104 x108) ++ cz_3 cA a115 x119))) H locs := hH
  refine lv_aload_n hx hb d11_init_125 rfl (lv_at hl 0 rfl) ?_
  refine cx_new C hH (ci := 4) (fs := [.null, .null]) rfl fw_4 fo_4 mL_11_74 mN_4 mI_4 (by decide +kernel) (Nat.le_of_ble_eq_true rfl) (Nat.le_of_ble_eq_true rfl) d11_init_126 (fun a126 H hH => ?_)
  refine lv_dup hx hb d11_init_129 rfl ?_
  refine cx_callIN (rest := [.ref a126, .ref q]) C (ce_sok aK aV B0) hH (ci_4 l D cA aK aV B0 (pre ++ ((q, .inr (11, [.ref a5, .ref a16, .ref a27, .ref a38, .ref a49, .ref a60, .ref a71, .ref a82, .ref a93, .ref a104, .ref a115, .null, .null])) :: ((((((((((cz_6 cA a5 x9 ++ cz_8 cA a16 x20) ++ cz_5 cA a27 x31) ++ cz_5 cA a38 x42) ++ cz_9 cA a49 x53) ++ cz_9 cA a60 x64) ++ cz_0 cA a71 x75) ++ cz_10 cA a82 x86) ++ cz_2 cA a93 x97) ++ cz_3 cA a104 x108) ++ cz_3 cA a115 x119))) a126) rfl mc4_init (ce_nwW C.2.2.2.2.2.2.2.2.2.1 8 rfl) mi4_init mI_4 (by decide) ⟨Nat.le_of_ble_eq_true rfl, Nat.le_of_ble_eq_true rfl⟩ ⟨Nat.le_of_ble_eq_true rfl, Nat.le_of_ble_eq_true rfl⟩ hl.1 (Nat.le_of_ble_eq_true rfl) d11_init_130 (fun x130 H locs px130 hH => ?_)
  rw [List.append_assoc] at hH
  have hH : cx_H D B0 s (pre ++ ((q, .inr (11, [.ref a5, .ref a16, .ref a27, .ref a38, .ref a49, .ref a60, .ref a71, .ref a82, .ref a93, .ref a104, .ref a115, .null, .null])) :: (((((((((((cz_6 cA a5 x9 ++ cz_8 cA a16 x20) ++ cz_5 cA a27 x31) ++ cz_5 cA a38 x42) ++ cz_9 cA a49 x53) ++ cz_9 cA a60 x64) ++ cz_0 cA a71 x75) ++ cz_10 cA a82 x86) ++ cz_2 cA a93 x97) ++ cz_3 cA a104 x108) ++ cz_3 cA a115 x119) ++ cz_4 cA a126 x130))) H locs := by rw [List.cons_append] at hH; exact hH
  refine cx_put C hH (i := 0) (ci := 11) (j := 11) (N := 13) (fy := fy_11) (v := .ref a126) rfl rfl fw_11 fo_11 fn_11 (by decide) fl_11_77 rfl rfl rfl (by decide) d11_init_133 (fun H locs hH => ?_)
  have hH : cx_H D B0 s (pre ++ ((q, .inr (11, [.ref a5, .ref a16, .ref a27, .ref a38, .ref a49, .ref a60, .ref a71, .ref a82, .ref a93, .ref a104, .ref a115, .ref a126, .null])) :: (((((((((((cz_6 cA a5 x9 ++ cz_8 cA a16 x20) ++ cz_5 cA a27 x31) ++ cz_5 cA a38 x42) ++ cz_9 cA a49 x53) ++ cz_9 cA a60 x64) ++ cz_0 cA a71 x75) ++ cz_10 cA a82 x86) ++ cz_2 cA a93 x97) ++ cz_3 cA a104 x108) ++ cz_3 cA a115 x119) ++ cz_4 cA a126 x130))) H locs := hH
  refine lv_aload_n hx hb d11_init_136 rfl (lv_at hl 0 rfl) ?_
  refine cx_new C hH (ci := 1) (fs := [.int 0, .int 0, .null, .null]) rfl fw_1 fo_1 mL_11_81 mN_1 mI_1 (by decide +kernel) (Nat.le_of_ble_eq_true rfl) (Nat.le_of_ble_eq_true rfl) d11_init_137 (fun a137 H hH => ?_)
  refine lv_dup hx hb d11_init_140 rfl ?_
  refine cx_callIN (rest := [.ref a137, .ref q]) C (ce_sok aK aV B0) hH (ci_1 l D cA aK aV B0 (pre ++ ((q, .inr (11, [.ref a5, .ref a16, .ref a27, .ref a38, .ref a49, .ref a60, .ref a71, .ref a82, .ref a93, .ref a104, .ref a115, .ref a126, .null])) :: (((((((((((cz_6 cA a5 x9 ++ cz_8 cA a16 x20) ++ cz_5 cA a27 x31) ++ cz_5 cA a38 x42) ++ cz_9 cA a49 x53) ++ cz_9 cA a60 x64) ++ cz_0 cA a71 x75) ++ cz_10 cA a82 x86) ++ cz_2 cA a93 x97) ++ cz_3 cA a104 x108) ++ cz_3 cA a115 x119) ++ cz_4 cA a126 x130))) a137) rfl mc1_init (ce_nwW C.2.2.2.2.2.2.2.2.2.1 9 rfl) mi1_init mI_1 (by decide) ⟨Nat.le_of_ble_eq_true rfl, Nat.le_of_ble_eq_true rfl⟩ ⟨Nat.le_of_ble_eq_true rfl, Nat.le_of_ble_eq_true rfl⟩ hl.1 (Nat.le_of_ble_eq_true rfl) d11_init_141 (fun x141 H locs px141 hH => ?_)
  rw [List.append_assoc] at hH
  have hH : cx_H D B0 s (pre ++ ((q, .inr (11, [.ref a5, .ref a16, .ref a27, .ref a38, .ref a49, .ref a60, .ref a71, .ref a82, .ref a93, .ref a104, .ref a115, .ref a126, .null])) :: ((((((((((((cz_6 cA a5 x9 ++ cz_8 cA a16 x20) ++ cz_5 cA a27 x31) ++ cz_5 cA a38 x42) ++ cz_9 cA a49 x53) ++ cz_9 cA a60 x64) ++ cz_0 cA a71 x75) ++ cz_10 cA a82 x86) ++ cz_2 cA a93 x97) ++ cz_3 cA a104 x108) ++ cz_3 cA a115 x119) ++ cz_4 cA a126 x130) ++ cz_1 cA a137 x141))) H locs := by rw [List.cons_append] at hH; exact hH
  refine cx_put C hH (i := 0) (ci := 11) (j := 12) (N := 13) (fy := fy_11) (v := .ref a137) rfl rfl fw_11 fo_11 fn_11 (by decide) fl_11_84 rfl rfl rfl (by decide) d11_init_144 (fun H locs hH => ?_)
  have hH : cx_H D B0 s (pre ++ ((q, .inr (11, [.ref a5, .ref a16, .ref a27, .ref a38, .ref a49, .ref a60, .ref a71, .ref a82, .ref a93, .ref a104, .ref a115, .ref a126, .ref a137])) :: ((((((((((((cz_6 cA a5 x9 ++ cz_8 cA a16 x20) ++ cz_5 cA a27 x31) ++ cz_5 cA a38 x42) ++ cz_9 cA a49 x53) ++ cz_9 cA a60 x64) ++ cz_0 cA a71 x75) ++ cz_10 cA a82 x86) ++ cz_2 cA a93 x97) ++ cz_3 cA a104 x108) ++ cz_3 cA a115 x119) ++ cz_4 cA a126 x130) ++ cz_1 cA a137 x141))) H locs := hH
  exact cx_ret C (ce_sok aK aV B0) (a5, x9, a16, x20, a27, x31, a38, x42, a49, x53, a60, x64, a71, x75, a82, x86, a93, x97, a104, x108, a115, x119, a126, x130, a137, x141) ⟨px31, px42⟩ hH d11_init_147
abbrev b12_init : ByteArray := prog_14_method_3_code
def y12_init : MethodName := ⟨cn_12, "<init>", "()V"⟩
theorem d12_init_0 : decode b12_init 0 = .ok (.aload_n 0, 1) := by decide +kernel
theorem d12_init_1 : decode b12_init 1 = .ok (.invokespecial 1, 3) := by decide +kernel
theorem d12_init_4 : decode b12_init 4 = .ok (.aload_n 0, 1) := by decide +kernel
theorem d12_init_5 : decode b12_init 5 = .ok (.bipush 125, 2) := by decide +kernel
theorem d12_init_7 : decode b12_init 7 = .ok (.newarray .int, 2) := by decide +kernel
theorem d12_init_9 : decode b12_init 9 = .ok (.putfield 7, 3) := by decide +kernel
theorem d12_init_12 : decode b12_init 12 = .ok (.aload_n 0, 1) := by decide +kernel
theorem d12_init_13 : decode b12_init 13 = .ok (.bipush 125, 2) := by decide +kernel
theorem d12_init_15 : decode b12_init 15 = .ok (.newarray .int, 2) := by decide +kernel
theorem d12_init_17 : decode b12_init 17 = .ok (.putfield 13, 3) := by decide +kernel
theorem d12_init_20 : decode b12_init 20 = .ok (.aload_n 0, 1) := by decide +kernel
theorem d12_init_21 : decode b12_init 21 = .ok (.sipush 2500, 3) := by decide +kernel
theorem d12_init_24 : decode b12_init 24 = .ok (.newarray .int, 2) := by decide +kernel
theorem d12_init_26 : decode b12_init 26 = .ok (.putfield 16, 3) := by decide +kernel
theorem d12_init_29 : decode b12_init 29 = .ok (.aload_n 0, 1) := by decide +kernel
theorem d12_init_30 : decode b12_init 30 = .ok (.sipush 700, 3) := by decide +kernel
theorem d12_init_33 : decode b12_init 33 = .ok (.newarray .int, 2) := by decide +kernel
theorem d12_init_35 : decode b12_init 35 = .ok (.putfield 19, 3) := by decide +kernel
theorem d12_init_38 : decode b12_init 38 = .ok (.aload_n 0, 1) := by decide +kernel
theorem d12_init_39 : decode b12_init 39 = .ok (.iconst (-1), 1) := by decide +kernel
theorem d12_init_40 : decode b12_init 40 = .ok (.putfield 22, 3) := by decide +kernel
theorem d12_init_43 : decode b12_init 43 = .ok (.aload_n 0, 1) := by decide +kernel
theorem d12_init_44 : decode b12_init 44 = .ok (.bipush 10, 2) := by decide +kernel
theorem d12_init_46 : decode b12_init 46 = .ok (.newarray .int, 2) := by decide +kernel
theorem d12_init_48 : decode b12_init 48 = .ok (.putfield 26, 3) := by decide +kernel
theorem d12_init_51 : decode b12_init 51 = .ok (.aload_n 0, 1) := by decide +kernel
theorem d12_init_52 : decode b12_init 52 = .ok (.bipush 10, 2) := by decide +kernel
theorem d12_init_54 : decode b12_init 54 = .ok (.newarray .int, 2) := by decide +kernel
theorem d12_init_56 : decode b12_init 56 = .ok (.putfield 29, 3) := by decide +kernel
theorem d12_init_59 : decode b12_init 59 = .ok (.aload_n 0, 1) := by decide +kernel
theorem d12_init_60 : decode b12_init 60 = .ok (.bipush 10, 2) := by decide +kernel
theorem d12_init_62 : decode b12_init 62 = .ok (.newarray .int, 2) := by decide +kernel
theorem d12_init_64 : decode b12_init 64 = .ok (.putfield 32, 3) := by decide +kernel
theorem d12_init_67 : decode b12_init 67 = .ok (.aload_n 0, 1) := by decide +kernel
theorem d12_init_68 : decode b12_init 68 = .ok (.bipush 40, 2) := by decide +kernel
theorem d12_init_70 : decode b12_init 70 = .ok (.newarray .int, 2) := by decide +kernel
theorem d12_init_72 : decode b12_init 72 = .ok (.putfield 35, 3) := by decide +kernel
theorem d12_init_75 : decode b12_init 75 = .ok (.aload_n 0, 1) := by decide +kernel
theorem d12_init_76 : decode b12_init 76 = .ok (.bipush 10, 2) := by decide +kernel
theorem d12_init_78 : decode b12_init 78 = .ok (.newarray .int, 2) := by decide +kernel
theorem d12_init_80 : decode b12_init 80 = .ok (.putfield 38, 3) := by decide +kernel
theorem d12_init_83 : decode b12_init 83 = .ok (.aload_n 0, 1) := by decide +kernel
theorem d12_init_84 : decode b12_init 84 = .ok (.bipush 10, 2) := by decide +kernel
theorem d12_init_86 : decode b12_init 86 = .ok (.newarray .int, 2) := by decide +kernel
theorem d12_init_88 : decode b12_init 88 = .ok (.putfield 41, 3) := by decide +kernel
theorem d12_init_91 : decode b12_init 91 = .ok (.aload_n 0, 1) := by decide +kernel
theorem d12_init_92 : decode b12_init 92 = .ok (.bipush 10, 2) := by decide +kernel
theorem d12_init_94 : decode b12_init 94 = .ok (.newarray .int, 2) := by decide +kernel
theorem d12_init_96 : decode b12_init 96 = .ok (.putfield 44, 3) := by decide +kernel
theorem d12_init_99 : decode b12_init 99 = .ok (.aload_n 0, 1) := by decide +kernel
theorem d12_init_100 : decode b12_init 100 = .ok (.bipush 10, 2) := by decide +kernel
theorem d12_init_102 : decode b12_init 102 = .ok (.newarray .int, 2) := by decide +kernel
theorem d12_init_104 : decode b12_init 104 = .ok (.putfield 47, 3) := by decide +kernel
theorem d12_init_107 : decode b12_init 107 = .ok (.aload_n 0, 1) := by decide +kernel
theorem d12_init_108 : decode b12_init 108 = .ok (.bipush 10, 2) := by decide +kernel
theorem d12_init_110 : decode b12_init 110 = .ok (.newarray .int, 2) := by decide +kernel
theorem d12_init_112 : decode b12_init 112 = .ok (.putfield 50, 3) := by decide +kernel
theorem d12_init_115 : decode b12_init 115 = .ok (.aload_n 0, 1) := by decide +kernel
theorem d12_init_116 : decode b12_init 116 = .ok (.bipush 10, 2) := by decide +kernel
theorem d12_init_118 : decode b12_init 118 = .ok (.newarray .int, 2) := by decide +kernel
theorem d12_init_120 : decode b12_init 120 = .ok (.putfield 53, 3) := by decide +kernel
theorem d12_init_123 : decode b12_init 123 = .ok (.aload_n 0, 1) := by decide +kernel
theorem d12_init_124 : decode b12_init 124 = .ok (.bipush 10, 2) := by decide +kernel
theorem d12_init_126 : decode b12_init 126 = .ok (.newarray .int, 2) := by decide +kernel
theorem d12_init_128 : decode b12_init 128 = .ok (.putfield 56, 3) := by decide +kernel
theorem d12_init_131 : decode b12_init 131 = .ok (.aload_n 0, 1) := by decide +kernel
theorem d12_init_132 : decode b12_init 132 = .ok (.bipush 10, 2) := by decide +kernel
theorem d12_init_134 : decode b12_init 134 = .ok (.newarray .int, 2) := by decide +kernel
theorem d12_init_136 : decode b12_init 136 = .ok (.putfield 59, 3) := by decide +kernel
theorem d12_init_139 : decode b12_init 139 = .ok (.aload_n 0, 1) := by decide +kernel
theorem d12_init_140 : decode b12_init 140 = .ok (.bipush 10, 2) := by decide +kernel
theorem d12_init_142 : decode b12_init 142 = .ok (.newarray .int, 2) := by decide +kernel
theorem d12_init_144 : decode b12_init 144 = .ok (.putfield 62, 3) := by decide +kernel
theorem d12_init_147 : decode b12_init 147 = .ok (.aload_n 0, 1) := by decide +kernel
theorem d12_init_148 : decode b12_init 148 = .ok (.bipush 12, 2) := by decide +kernel
theorem d12_init_150 : decode b12_init 150 = .ok (.newarray .int, 2) := by decide +kernel
theorem d12_init_152 : decode b12_init 152 = .ok (.putfield 65, 3) := by decide +kernel
theorem d12_init_155 : decode b12_init 155 = .ok (.aload_n 0, 1) := by decide +kernel
theorem d12_init_156 : decode b12_init 156 = .ok (.bipush 48, 2) := by decide +kernel
theorem d12_init_158 : decode b12_init 158 = .ok (.newarray .int, 2) := by decide +kernel
theorem d12_init_160 : decode b12_init 160 = .ok (.putfield 68, 3) := by decide +kernel
theorem d12_init_163 : decode b12_init 163 = .ok (.aload_n 0, 1) := by decide +kernel
theorem d12_init_164 : decode b12_init 164 = .ok (.bipush 13, 2) := by decide +kernel
theorem d12_init_166 : decode b12_init 166 = .ok (.newarray .int, 2) := by decide +kernel
theorem d12_init_168 : decode b12_init 168 = .ok (.putfield 71, 3) := by decide +kernel
theorem d12_init_171 : decode b12_init 171 = .ok (.aload_n 0, 1) := by decide +kernel
theorem d12_init_172 : decode b12_init 172 = .ok (.bipush 52, 2) := by decide +kernel
theorem d12_init_174 : decode b12_init 174 = .ok (.newarray .int, 2) := by decide +kernel
theorem d12_init_176 : decode b12_init 176 = .ok (.putfield 74, 3) := by decide +kernel
theorem d12_init_179 : decode b12_init 179 = .ok (.aload_n 0, 1) := by decide +kernel
theorem d12_init_180 : decode b12_init 180 = .ok (.bipush 12, 2) := by decide +kernel
theorem d12_init_182 : decode b12_init 182 = .ok (.newarray .int, 2) := by decide +kernel
theorem d12_init_184 : decode b12_init 184 = .ok (.putfield 77, 3) := by decide +kernel
theorem d12_init_187 : decode b12_init 187 = .ok (.aload_n 0, 1) := by decide +kernel
theorem d12_init_188 : decode b12_init 188 = .ok (.bipush 12, 2) := by decide +kernel
theorem d12_init_190 : decode b12_init 190 = .ok (.newarray .int, 2) := by decide +kernel
theorem d12_init_192 : decode b12_init 192 = .ok (.putfield 80, 3) := by decide +kernel
theorem d12_init_195 : decode b12_init 195 = .ok (.aload_n 0, 1) := by decide +kernel
theorem d12_init_196 : decode b12_init 196 = .ok (.bipush 12, 2) := by decide +kernel
theorem d12_init_198 : decode b12_init 198 = .ok (.newarray .int, 2) := by decide +kernel
theorem d12_init_200 : decode b12_init 200 = .ok (.putfield 83, 3) := by decide +kernel
theorem d12_init_203 : decode b12_init 203 = .ok (.aload_n 0, 1) := by decide +kernel
theorem d12_init_204 : decode b12_init 204 = .ok (.bipush 13, 2) := by decide +kernel
theorem d12_init_206 : decode b12_init 206 = .ok (.newarray .int, 2) := by decide +kernel
theorem d12_init_208 : decode b12_init 208 = .ok (.putfield 86, 3) := by decide +kernel
theorem d12_init_211 : decode b12_init 211 = .ok (.aload_n 0, 1) := by decide +kernel
theorem d12_init_212 : decode b12_init 212 = .ok (.bipush 10, 2) := by decide +kernel
theorem d12_init_214 : decode b12_init 214 = .ok (.newarray .int, 2) := by decide +kernel
theorem d12_init_216 : decode b12_init 216 = .ok (.putfield 89, 3) := by decide +kernel
theorem d12_init_219 : decode b12_init 219 = .ok (.aload_n 0, 1) := by decide +kernel
theorem d12_init_220 : decode b12_init 220 = .ok (.bipush 10, 2) := by decide +kernel
theorem d12_init_222 : decode b12_init 222 = .ok (.newarray .int, 2) := by decide +kernel
theorem d12_init_224 : decode b12_init 224 = .ok (.putfield 92, 3) := by decide +kernel
theorem d12_init_227 : decode b12_init 227 = .ok (.return_, 1) := by decide +kernel
def cz_12 (cA : Nat → ClassId) (q : Nat) (x : Nat × Nat × Nat × Nat × Nat × Nat × Nat × Nat × Nat × Nat × Nat × Nat × Nat × Nat × Nat × Nat × Nat × Nat × Nat × Nat × Nat × Nat × Nat × Nat × Nat × Nat × Nat) : va_W := [(q, .inr (12, [.ref x.1, .ref x.2.1, .ref x.2.2.1, .ref x.2.2.2.1, .int 0, .int 0, .int (-1 : Int32), .int 0, .int 0, .int 0, .int 0, .int 0, .int 0, .ref x.2.2.2.2.1, .ref x.2.2.2.2.2.1, .ref x.2.2.2.2.2.2.1, .ref x.2.2.2.2.2.2.2.1, .ref x.2.2.2.2.2.2.2.2.1, .ref x.2.2.2.2.2.2.2.2.2.1, .ref x.2.2.2.2.2.2.2.2.2.2.1, .ref x.2.2.2.2.2.2.2.2.2.2.2.1, .ref x.2.2.2.2.2.2.2.2.2.2.2.2.1, .ref x.2.2.2.2.2.2.2.2.2.2.2.2.2.1, .ref x.2.2.2.2.2.2.2.2.2.2.2.2.2.2.1, .int 0, .ref x.2.2.2.2.2.2.2.2.2.2.2.2.2.2.2.1, .ref x.2.2.2.2.2.2.2.2.2.2.2.2.2.2.2.2.1, .ref x.2.2.2.2.2.2.2.2.2.2.2.2.2.2.2.2.2.1, .ref x.2.2.2.2.2.2.2.2.2.2.2.2.2.2.2.2.2.2.1, .int 0, .ref x.2.2.2.2.2.2.2.2.2.2.2.2.2.2.2.2.2.2.2.1, .ref x.2.2.2.2.2.2.2.2.2.2.2.2.2.2.2.2.2.2.2.2.1, .int 0, .ref x.2.2.2.2.2.2.2.2.2.2.2.2.2.2.2.2.2.2.2.2.2.1, .ref x.2.2.2.2.2.2.2.2.2.2.2.2.2.2.2.2.2.2.2.2.2.2.1, .ref x.2.2.2.2.2.2.2.2.2.2.2.2.2.2.2.2.2.2.2.2.2.2.2.1, .ref x.2.2.2.2.2.2.2.2.2.2.2.2.2.2.2.2.2.2.2.2.2.2.2.2.1, .int 0, .int 0, .ref x.2.2.2.2.2.2.2.2.2.2.2.2.2.2.2.2.2.2.2.2.2.2.2.2.2.1, .ref x.2.2.2.2.2.2.2.2.2.2.2.2.2.2.2.2.2.2.2.2.2.2.2.2.2.2, .int 0, .int 0])), (x.1, .inl (cA 0, 125, .inl (fun _ => 0))), (x.2.1, .inl (cA 0, 125, .inl (fun _ => 0))), (x.2.2.1, .inl (cA 0, 2500, .inl (fun _ => 0))), (x.2.2.2.1, .inl (cA 0, 700, .inl (fun _ => 0))), (x.2.2.2.2.1, .inl (cA 0, 10, .inl (fun _ => 0))), (x.2.2.2.2.2.1, .inl (cA 0, 10, .inl (fun _ => 0))), (x.2.2.2.2.2.2.1, .inl (cA 0, 10, .inl (fun _ => 0))), (x.2.2.2.2.2.2.2.1, .inl (cA 0, 40, .inl (fun _ => 0))), (x.2.2.2.2.2.2.2.2.1, .inl (cA 0, 10, .inl (fun _ => 0))), (x.2.2.2.2.2.2.2.2.2.1, .inl (cA 0, 10, .inl (fun _ => 0))), (x.2.2.2.2.2.2.2.2.2.2.1, .inl (cA 0, 10, .inl (fun _ => 0))), (x.2.2.2.2.2.2.2.2.2.2.2.1, .inl (cA 0, 10, .inl (fun _ => 0))), (x.2.2.2.2.2.2.2.2.2.2.2.2.1, .inl (cA 0, 10, .inl (fun _ => 0))), (x.2.2.2.2.2.2.2.2.2.2.2.2.2.1, .inl (cA 0, 10, .inl (fun _ => 0))), (x.2.2.2.2.2.2.2.2.2.2.2.2.2.2.1, .inl (cA 0, 10, .inl (fun _ => 0))), (x.2.2.2.2.2.2.2.2.2.2.2.2.2.2.2.1, .inl (cA 0, 10, .inl (fun _ => 0))), (x.2.2.2.2.2.2.2.2.2.2.2.2.2.2.2.2.1, .inl (cA 0, 10, .inl (fun _ => 0))), (x.2.2.2.2.2.2.2.2.2.2.2.2.2.2.2.2.2.1, .inl (cA 0, 12, .inl (fun _ => 0))), (x.2.2.2.2.2.2.2.2.2.2.2.2.2.2.2.2.2.2.1, .inl (cA 0, 48, .inl (fun _ => 0))), (x.2.2.2.2.2.2.2.2.2.2.2.2.2.2.2.2.2.2.2.1, .inl (cA 0, 13, .inl (fun _ => 0))), (x.2.2.2.2.2.2.2.2.2.2.2.2.2.2.2.2.2.2.2.2.1, .inl (cA 0, 52, .inl (fun _ => 0))), (x.2.2.2.2.2.2.2.2.2.2.2.2.2.2.2.2.2.2.2.2.2.1, .inl (cA 0, 12, .inl (fun _ => 0))), (x.2.2.2.2.2.2.2.2.2.2.2.2.2.2.2.2.2.2.2.2.2.2.1, .inl (cA 0, 12, .inl (fun _ => 0))), (x.2.2.2.2.2.2.2.2.2.2.2.2.2.2.2.2.2.2.2.2.2.2.2.1, .inl (cA 0, 12, .inl (fun _ => 0))), (x.2.2.2.2.2.2.2.2.2.2.2.2.2.2.2.2.2.2.2.2.2.2.2.2.1, .inl (cA 0, 13, .inl (fun _ => 0))), (x.2.2.2.2.2.2.2.2.2.2.2.2.2.2.2.2.2.2.2.2.2.2.2.2.2.1, .inl (cA 0, 10, .inl (fun _ => 0))), (x.2.2.2.2.2.2.2.2.2.2.2.2.2.2.2.2.2.2.2.2.2.2.2.2.2.2, .inl (cA 0, 10, .inl (fun _ => 0)))]
theorem mo_12 : Cond.methodLink cn_12 1 Lib.objectInit ∈ ce_cm := ce_cm_of (List.mem_of_getElem? (i := 1120) (by decide +kernel)) (by decide +kernel)
set_option maxRecDepth 20000 in
set_option maxHeartbeats 4000000 in
theorem ci_12 (l : Launch) (D : va_G) (cA : Nat → ClassId) (aK aV : Nat → Nat) (B0 : Nat) (pre : va_W) (q : Nat) : cx_Ct l D cA B0 (ce_St aK aV B0) y12_init b12_init 1 1 12 27 3804 [.ref q] (pre ++ [(q, .inr (12, [.null, .null, .null, .null, .int 0, .int 0, .int 0, .int 0, .int 0, .int 0, .int 0, .int 0, .int 0, .null, .null, .null, .null, .null, .null, .null, .null, .null, .null, .null, .int 0, .null, .null, .null, .null, .int 0, .null, .null, .int 0, .null, .null, .null, .null, .int 0, .int 0, .null, .null, .int 0, .int 0]))]) (fun (_ : Nat × Nat × Nat × Nat × Nat × Nat × Nat × Nat × Nat × Nat × Nat × Nat × Nat × Nat × Nat × Nat × Nat × Nat × Nat × Nat × Nat × Nat × Nat × Nat × Nat × Nat × Nat) => True) (fun x => pre ++ cz_12 cA q x) := by
  refine cx_enter (by decide) rfl rfl (Nat.le_of_ble_eq_true rfl) (fun p e0 s m below meth c ls C hH hl => ?_)
  have hl : lv_has ls 1 [(0, .ref q)] := hl
  have hx := C.1
  have hb := C.2.1
  refine lv_aload_n hx hb d12_init_0 rfl (lv_at hl 0 rfl) ?_
  refine cx_obj C mo_12 mI_obj mC_obj hl.1 d12_init_1 (Nat.le_of_ble_eq_true rfl) (Nat.le_of_ble_eq_true rfl) ?_
  refine lv_aload_n hx hb d12_init_4 rfl (lv_at hl 0 rfl) ?_
  refine lv_bipush (v := (125 : Int32)) hx hb d12_init_5 (by decide) ?_
  refine cx_newa C hH .int 0 (ty := .int) rfl rfl mA_0 (fun _ => rfl) rfl (N := 125) (by decide) (by decide) (by decide) (Nat.le_of_ble_eq_true rfl) (Nat.le_of_ble_eq_true rfl) d12_init_7 (fun a7 H hH => ?_)
  have hH : cx_H D B0 s (pre ++ [(q, .inr (12, [.null, .null, .null, .null, .int 0, .int 0, .int 0, .int 0, .int 0, .int 0, .int 0, .int 0, .int 0, .null, .null, .null, .null, .null, .null, .null, .null, .null, .null, .null, .int 0, .null, .null, .null, .null, .int 0, .null, .null, .int 0, .null, .null, .null, .null, .int 0, .int 0, .null, .null, .int 0, .int 0])), (a7, .inl (cA 0, 125, .inl (fun _ => 0)))]) H locs := hH
  refine cx_put C hH (i := 0) (ci := 12) (j := 0) (N := 43) (fy := fy_12) (v := .ref a7) rfl rfl fw_12 fo_12 fn_12 (by decide) fl_12_7 rfl rfl rfl (by decide) d12_init_9 (fun H locs hH => ?_)
  have hH : cx_H D B0 s (pre ++ [(q, .inr (12, [.ref a7, .null, .null, .null, .int 0, .int 0, .int 0, .int 0, .int 0, .int 0, .int 0, .int 0, .int 0, .null, .null, .null, .null, .null, .null, .null, .null, .null, .null, .null, .int 0, .null, .null, .null, .null, .int 0, .null, .null, .int 0, .null, .null, .null, .null, .int 0, .int 0, .null, .null, .int 0, .int 0])), (a7, .inl (cA 0, 125, .inl (fun _ => 0)))]) H locs := hH
  refine lv_aload_n hx hb d12_init_12 rfl (lv_at hl 0 rfl) ?_
  refine lv_bipush (v := (125 : Int32)) hx hb d12_init_13 (by decide) ?_
  refine cx_newa C hH .int 0 (ty := .int) rfl rfl mA_0 (fun _ => rfl) rfl (N := 125) (by decide) (by decide) (by decide) (Nat.le_of_ble_eq_true rfl) (Nat.le_of_ble_eq_true rfl) d12_init_15 (fun a15 H hH => ?_)
  have hH : cx_H D B0 s (pre ++ [(q, .inr (12, [.ref a7, .null, .null, .null, .int 0, .int 0, .int 0, .int 0, .int 0, .int 0, .int 0, .int 0, .int 0, .null, .null, .null, .null, .null, .null, .null, .null, .null, .null, .null, .int 0, .null, .null, .null, .null, .int 0, .null, .null, .int 0, .null, .null, .null, .null, .int 0, .int 0, .null, .null, .int 0, .int 0])), (a7, .inl (cA 0, 125, .inl (fun _ => 0))), (a15, .inl (cA 0, 125, .inl (fun _ => 0)))]) H locs := hH
  refine cx_put C hH (i := 0) (ci := 12) (j := 1) (N := 43) (fy := fy_12) (v := .ref a15) rfl rfl fw_12 fo_12 fn_12 (by decide) fl_12_13 rfl rfl rfl (by decide) d12_init_17 (fun H locs hH => ?_)
  have hH : cx_H D B0 s (pre ++ [(q, .inr (12, [.ref a7, .ref a15, .null, .null, .int 0, .int 0, .int 0, .int 0, .int 0, .int 0, .int 0, .int 0, .int 0, .null, .null, .null, .null, .null, .null, .null, .null, .null, .null, .null, .int 0, .null, .null, .null, .null, .int 0, .null, .null, .int 0, .null, .null, .null, .null, .int 0, .int 0, .null, .null, .int 0, .int 0])), (a7, .inl (cA 0, 125, .inl (fun _ => 0))), (a15, .inl (cA 0, 125, .inl (fun _ => 0)))]) H locs := hH
  refine lv_aload_n hx hb d12_init_20 rfl (lv_at hl 0 rfl) ?_
  refine lv_sipush (v := (2500 : Int32)) hx hb d12_init_21 (by decide) ?_
  refine cx_newa C hH .int 0 (ty := .int) rfl rfl mA_0 (fun _ => rfl) rfl (N := 2500) (by decide) (by decide) (by decide) (Nat.le_of_ble_eq_true rfl) (Nat.le_of_ble_eq_true rfl) d12_init_24 (fun a24 H hH => ?_)
  have hH : cx_H D B0 s (pre ++ [(q, .inr (12, [.ref a7, .ref a15, .null, .null, .int 0, .int 0, .int 0, .int 0, .int 0, .int 0, .int 0, .int 0, .int 0, .null, .null, .null, .null, .null, .null, .null, .null, .null, .null, .null, .int 0, .null, .null, .null, .null, .int 0, .null, .null, .int 0, .null, .null, .null, .null, .int 0, .int 0, .null, .null, .int 0, .int 0])), (a7, .inl (cA 0, 125, .inl (fun _ => 0))), (a15, .inl (cA 0, 125, .inl (fun _ => 0))), (a24, .inl (cA 0, 2500, .inl (fun _ => 0)))]) H locs := hH
  refine cx_put C hH (i := 0) (ci := 12) (j := 2) (N := 43) (fy := fy_12) (v := .ref a24) rfl rfl fw_12 fo_12 fn_12 (by decide) fl_12_16 rfl rfl rfl (by decide) d12_init_26 (fun H locs hH => ?_)
  have hH : cx_H D B0 s (pre ++ [(q, .inr (12, [.ref a7, .ref a15, .ref a24, .null, .int 0, .int 0, .int 0, .int 0, .int 0, .int 0, .int 0, .int 0, .int 0, .null, .null, .null, .null, .null, .null, .null, .null, .null, .null, .null, .int 0, .null, .null, .null, .null, .int 0, .null, .null, .int 0, .null, .null, .null, .null, .int 0, .int 0, .null, .null, .int 0, .int 0])), (a7, .inl (cA 0, 125, .inl (fun _ => 0))), (a15, .inl (cA 0, 125, .inl (fun _ => 0))), (a24, .inl (cA 0, 2500, .inl (fun _ => 0)))]) H locs := hH
  refine lv_aload_n hx hb d12_init_29 rfl (lv_at hl 0 rfl) ?_
  refine lv_sipush (v := (700 : Int32)) hx hb d12_init_30 (by decide) ?_
  refine cx_newa C hH .int 0 (ty := .int) rfl rfl mA_0 (fun _ => rfl) rfl (N := 700) (by decide) (by decide) (by decide) (Nat.le_of_ble_eq_true rfl) (Nat.le_of_ble_eq_true rfl) d12_init_33 (fun a33 H hH => ?_)
  have hH : cx_H D B0 s (pre ++ [(q, .inr (12, [.ref a7, .ref a15, .ref a24, .null, .int 0, .int 0, .int 0, .int 0, .int 0, .int 0, .int 0, .int 0, .int 0, .null, .null, .null, .null, .null, .null, .null, .null, .null, .null, .null, .int 0, .null, .null, .null, .null, .int 0, .null, .null, .int 0, .null, .null, .null, .null, .int 0, .int 0, .null, .null, .int 0, .int 0])), (a7, .inl (cA 0, 125, .inl (fun _ => 0))), (a15, .inl (cA 0, 125, .inl (fun _ => 0))), (a24, .inl (cA 0, 2500, .inl (fun _ => 0))), (a33, .inl (cA 0, 700, .inl (fun _ => 0)))]) H locs := hH
  refine cx_put C hH (i := 0) (ci := 12) (j := 3) (N := 43) (fy := fy_12) (v := .ref a33) rfl rfl fw_12 fo_12 fn_12 (by decide) fl_12_19 rfl rfl rfl (by decide) d12_init_35 (fun H locs hH => ?_)
  have hH : cx_H D B0 s (pre ++ [(q, .inr (12, [.ref a7, .ref a15, .ref a24, .ref a33, .int 0, .int 0, .int 0, .int 0, .int 0, .int 0, .int 0, .int 0, .int 0, .null, .null, .null, .null, .null, .null, .null, .null, .null, .null, .null, .int 0, .null, .null, .null, .null, .int 0, .null, .null, .int 0, .null, .null, .null, .null, .int 0, .int 0, .null, .null, .int 0, .int 0])), (a7, .inl (cA 0, 125, .inl (fun _ => 0))), (a15, .inl (cA 0, 125, .inl (fun _ => 0))), (a24, .inl (cA 0, 2500, .inl (fun _ => 0))), (a33, .inl (cA 0, 700, .inl (fun _ => 0)))]) H locs := hH
  refine lv_aload_n hx hb d12_init_38 rfl (lv_at hl 0 rfl) ?_
  refine lv_iconst (v := (-1 : Int32)) hx hb d12_init_39 (by decide) ?_
  refine cx_put C hH (i := 0) (ci := 12) (j := 6) (N := 43) (fy := fy_12) (v := .int (-1 : Int32)) rfl rfl fw_12 fo_12 fn_12 (by decide) fl_12_22 rfl rfl rfl (by decide) d12_init_40 (fun H locs hH => ?_)
  have hH : cx_H D B0 s (pre ++ [(q, .inr (12, [.ref a7, .ref a15, .ref a24, .ref a33, .int 0, .int 0, .int (-1 : Int32), .int 0, .int 0, .int 0, .int 0, .int 0, .int 0, .null, .null, .null, .null, .null, .null, .null, .null, .null, .null, .null, .int 0, .null, .null, .null, .null, .int 0, .null, .null, .int 0, .null, .null, .null, .null, .int 0, .int 0, .null, .null, .int 0, .int 0])), (a7, .inl (cA 0, 125, .inl (fun _ => 0))), (a15, .inl (cA 0, 125, .inl (fun _ => 0))), (a24, .inl (cA 0, 2500, .inl (fun _ => 0))), (a33, .inl (cA 0, 700, .inl (fun _ => 0)))]) H locs := hH
  refine lv_aload_n hx hb d12_init_43 rfl (lv_at hl 0 rfl) ?_
  refine lv_bipush (v := (10 : Int32)) hx hb d12_init_44 (by decide) ?_
  refine cx_newa C hH .int 0 (ty := .int) rfl rfl mA_0 (fun _ => rfl) rfl (N := 10) (by decide) (by decide) (by decide) (Nat.le_of_ble_eq_true rfl) (Nat.le_of_ble_eq_true rfl) d12_init_46 (fun a46 H hH => ?_)
  have hH : cx_H D B0 s (pre ++ [(q, .inr (12, [.ref a7, .ref a15, .ref a24, .ref a33, .int 0, .int 0, .int (-1 : Int32), .int 0, .int 0, .int 0, .int 0, .int 0, .int 0, .null, .null, .null, .null, .null, .null, .null, .null, .null, .null, .null, .int 0, .null, .null, .null, .null, .int 0, .null, .null, .int 0, .null, .null, .null, .null, .int 0, .int 0, .null, .null, .int 0, .int 0])), (a7, .inl (cA 0, 125, .inl (fun _ => 0))), (a15, .inl (cA 0, 125, .inl (fun _ => 0))), (a24, .inl (cA 0, 2500, .inl (fun _ => 0))), (a33, .inl (cA 0, 700, .inl (fun _ => 0))), (a46, .inl (cA 0, 10, .inl (fun _ => 0)))]) H locs := hH
  refine cx_put C hH (i := 0) (ci := 12) (j := 13) (N := 43) (fy := fy_12) (v := .ref a46) rfl rfl fw_12 fo_12 fn_12 (by decide) fl_12_26 rfl rfl rfl (by decide) d12_init_48 (fun H locs hH => ?_)
  have hH : cx_H D B0 s (pre ++ [(q, .inr (12, [.ref a7, .ref a15, .ref a24, .ref a33, .int 0, .int 0, .int (-1 : Int32), .int 0, .int 0, .int 0, .int 0, .int 0, .int 0, .ref a46, .null, .null, .null, .null, .null, .null, .null, .null, .null, .null, .int 0, .null, .null, .null, .null, .int 0, .null, .null, .int 0, .null, .null, .null, .null, .int 0, .int 0, .null, .null, .int 0, .int 0])), (a7, .inl (cA 0, 125, .inl (fun _ => 0))), (a15, .inl (cA 0, 125, .inl (fun _ => 0))), (a24, .inl (cA 0, 2500, .inl (fun _ => 0))), (a33, .inl (cA 0, 700, .inl (fun _ => 0))), (a46, .inl (cA 0, 10, .inl (fun _ => 0)))]) H locs := hH
  refine lv_aload_n hx hb d12_init_51 rfl (lv_at hl 0 rfl) ?_
  refine lv_bipush (v := (10 : Int32)) hx hb d12_init_52 (by decide) ?_
  refine cx_newa C hH .int 0 (ty := .int) rfl rfl mA_0 (fun _ => rfl) rfl (N := 10) (by decide) (by decide) (by decide) (Nat.le_of_ble_eq_true rfl) (Nat.le_of_ble_eq_true rfl) d12_init_54 (fun a54 H hH => ?_)
  have hH : cx_H D B0 s (pre ++ [(q, .inr (12, [.ref a7, .ref a15, .ref a24, .ref a33, .int 0, .int 0, .int (-1 : Int32), .int 0, .int 0, .int 0, .int 0, .int 0, .int 0, .ref a46, .null, .null, .null, .null, .null, .null, .null, .null, .null, .null, .int 0, .null, .null, .null, .null, .int 0, .null, .null, .int 0, .null, .null, .null, .null, .int 0, .int 0, .null, .null, .int 0, .int 0])), (a7, .inl (cA 0, 125, .inl (fun _ => 0))), (a15, .inl (cA 0, 125, .inl (fun _ => 0))), (a24, .inl (cA 0, 2500, .inl (fun _ => 0))), (a33, .inl (cA 0, 700, .inl (fun _ => 0))), (a46, .inl (cA 0, 10, .inl (fun _ => 0))), (a54, .inl (cA 0, 10, .inl (fun _ => 0)))]) H locs := hH
  refine cx_put C hH (i := 0) (ci := 12) (j := 14) (N := 43) (fy := fy_12) (v := .ref a54) rfl rfl fw_12 fo_12 fn_12 (by decide) fl_12_29 rfl rfl rfl (by decide) d12_init_56 (fun H locs hH => ?_)
  have hH : cx_H D B0 s (pre ++ [(q, .inr (12, [.ref a7, .ref a15, .ref a24, .ref a33, .int 0, .int 0, .int (-1 : Int32), .int 0, .int 0, .int 0, .int 0, .int 0, .int 0, .ref a46, .ref a54, .null, .null, .null, .null, .null, .null, .null, .null, .null, .int 0, .null, .null, .null, .null, .int 0, .null, .null, .int 0, .null, .null, .null, .null, .int 0, .int 0, .null, .null, .int 0, .int 0])), (a7, .inl (cA 0, 125, .inl (fun _ => 0))), (a15, .inl (cA 0, 125, .inl (fun _ => 0))), (a24, .inl (cA 0, 2500, .inl (fun _ => 0))), (a33, .inl (cA 0, 700, .inl (fun _ => 0))), (a46, .inl (cA 0, 10, .inl (fun _ => 0))), (a54, .inl (cA 0, 10, .inl (fun _ => 0)))]) H locs := hH
  refine lv_aload_n hx hb d12_init_59 rfl (lv_at hl 0 rfl) ?_
  refine lv_bipush (v := (10 : Int32)) hx hb d12_init_60 (by decide) ?_
  refine cx_newa C hH .int 0 (ty := .int) rfl rfl mA_0 (fun _ => rfl) rfl (N := 10) (by decide) (by decide) (by decide) (Nat.le_of_ble_eq_true rfl) (Nat.le_of_ble_eq_true rfl) d12_init_62 (fun a62 H hH => ?_)
  have hH : cx_H D B0 s (pre ++ [(q, .inr (12, [.ref a7, .ref a15, .ref a24, .ref a33, .int 0, .int 0, .int (-1 : Int32), .int 0, .int 0, .int 0, .int 0, .int 0, .int 0, .ref a46, .ref a54, .null, .null, .null, .null, .null, .null, .null, .null, .null, .int 0, .null, .null, .null, .null, .int 0, .null, .null, .int 0, .null, .null, .null, .null, .int 0, .int 0, .null, .null, .int 0, .int 0])), (a7, .inl (cA 0, 125, .inl (fun _ => 0))), (a15, .inl (cA 0, 125, .inl (fun _ => 0))), (a24, .inl (cA 0, 2500, .inl (fun _ => 0))), (a33, .inl (cA 0, 700, .inl (fun _ => 0))), (a46, .inl (cA 0, 10, .inl (fun _ => 0))), (a54, .inl (cA 0, 10, .inl (fun _ => 0))), (a62, .inl (cA 0, 10, .inl (fun _ => 0)))]) H locs := hH
  refine cx_put C hH (i := 0) (ci := 12) (j := 15) (N := 43) (fy := fy_12) (v := .ref a62) rfl rfl fw_12 fo_12 fn_12 (by decide) fl_12_32 rfl rfl rfl (by decide) d12_init_64 (fun H locs hH => ?_)
  have hH : cx_H D B0 s (pre ++ [(q, .inr (12, [.ref a7, .ref a15, .ref a24, .ref a33, .int 0, .int 0, .int (-1 : Int32), .int 0, .int 0, .int 0, .int 0, .int 0, .int 0, .ref a46, .ref a54, .ref a62, .null, .null, .null, .null, .null, .null, .null, .null, .int 0, .null, .null, .null, .null, .int 0, .null, .null, .int 0, .null, .null, .null, .null, .int 0, .int 0, .null, .null, .int 0, .int 0])), (a7, .inl (cA 0, 125, .inl (fun _ => 0))), (a15, .inl (cA 0, 125, .inl (fun _ => 0))), (a24, .inl (cA 0, 2500, .inl (fun _ => 0))), (a33, .inl (cA 0, 700, .inl (fun _ => 0))), (a46, .inl (cA 0, 10, .inl (fun _ => 0))), (a54, .inl (cA 0, 10, .inl (fun _ => 0))), (a62, .inl (cA 0, 10, .inl (fun _ => 0)))]) H locs := hH
  refine lv_aload_n hx hb d12_init_67 rfl (lv_at hl 0 rfl) ?_
  refine lv_bipush (v := (40 : Int32)) hx hb d12_init_68 (by decide) ?_
  refine cx_newa C hH .int 0 (ty := .int) rfl rfl mA_0 (fun _ => rfl) rfl (N := 40) (by decide) (by decide) (by decide) (Nat.le_of_ble_eq_true rfl) (Nat.le_of_ble_eq_true rfl) d12_init_70 (fun a70 H hH => ?_)
  have hH : cx_H D B0 s (pre ++ [(q, .inr (12, [.ref a7, .ref a15, .ref a24, .ref a33, .int 0, .int 0, .int (-1 : Int32), .int 0, .int 0, .int 0, .int 0, .int 0, .int 0, .ref a46, .ref a54, .ref a62, .null, .null, .null, .null, .null, .null, .null, .null, .int 0, .null, .null, .null, .null, .int 0, .null, .null, .int 0, .null, .null, .null, .null, .int 0, .int 0, .null, .null, .int 0, .int 0])), (a7, .inl (cA 0, 125, .inl (fun _ => 0))), (a15, .inl (cA 0, 125, .inl (fun _ => 0))), (a24, .inl (cA 0, 2500, .inl (fun _ => 0))), (a33, .inl (cA 0, 700, .inl (fun _ => 0))), (a46, .inl (cA 0, 10, .inl (fun _ => 0))), (a54, .inl (cA 0, 10, .inl (fun _ => 0))), (a62, .inl (cA 0, 10, .inl (fun _ => 0))), (a70, .inl (cA 0, 40, .inl (fun _ => 0)))]) H locs := hH
  refine cx_put C hH (i := 0) (ci := 12) (j := 16) (N := 43) (fy := fy_12) (v := .ref a70) rfl rfl fw_12 fo_12 fn_12 (by decide) fl_12_35 rfl rfl rfl (by decide) d12_init_72 (fun H locs hH => ?_)
  have hH : cx_H D B0 s (pre ++ [(q, .inr (12, [.ref a7, .ref a15, .ref a24, .ref a33, .int 0, .int 0, .int (-1 : Int32), .int 0, .int 0, .int 0, .int 0, .int 0, .int 0, .ref a46, .ref a54, .ref a62, .ref a70, .null, .null, .null, .null, .null, .null, .null, .int 0, .null, .null, .null, .null, .int 0, .null, .null, .int 0, .null, .null, .null, .null, .int 0, .int 0, .null, .null, .int 0, .int 0])), (a7, .inl (cA 0, 125, .inl (fun _ => 0))), (a15, .inl (cA 0, 125, .inl (fun _ => 0))), (a24, .inl (cA 0, 2500, .inl (fun _ => 0))), (a33, .inl (cA 0, 700, .inl (fun _ => 0))), (a46, .inl (cA 0, 10, .inl (fun _ => 0))), (a54, .inl (cA 0, 10, .inl (fun _ => 0))), (a62, .inl (cA 0, 10, .inl (fun _ => 0))), (a70, .inl (cA 0, 40, .inl (fun _ => 0)))]) H locs := hH
  refine lv_aload_n hx hb d12_init_75 rfl (lv_at hl 0 rfl) ?_
  refine lv_bipush (v := (10 : Int32)) hx hb d12_init_76 (by decide) ?_
  refine cx_newa C hH .int 0 (ty := .int) rfl rfl mA_0 (fun _ => rfl) rfl (N := 10) (by decide) (by decide) (by decide) (Nat.le_of_ble_eq_true rfl) (Nat.le_of_ble_eq_true rfl) d12_init_78 (fun a78 H hH => ?_)
  have hH : cx_H D B0 s (pre ++ [(q, .inr (12, [.ref a7, .ref a15, .ref a24, .ref a33, .int 0, .int 0, .int (-1 : Int32), .int 0, .int 0, .int 0, .int 0, .int 0, .int 0, .ref a46, .ref a54, .ref a62, .ref a70, .null, .null, .null, .null, .null, .null, .null, .int 0, .null, .null, .null, .null, .int 0, .null, .null, .int 0, .null, .null, .null, .null, .int 0, .int 0, .null, .null, .int 0, .int 0])), (a7, .inl (cA 0, 125, .inl (fun _ => 0))), (a15, .inl (cA 0, 125, .inl (fun _ => 0))), (a24, .inl (cA 0, 2500, .inl (fun _ => 0))), (a33, .inl (cA 0, 700, .inl (fun _ => 0))), (a46, .inl (cA 0, 10, .inl (fun _ => 0))), (a54, .inl (cA 0, 10, .inl (fun _ => 0))), (a62, .inl (cA 0, 10, .inl (fun _ => 0))), (a70, .inl (cA 0, 40, .inl (fun _ => 0))), (a78, .inl (cA 0, 10, .inl (fun _ => 0)))]) H locs := hH
  refine cx_put C hH (i := 0) (ci := 12) (j := 17) (N := 43) (fy := fy_12) (v := .ref a78) rfl rfl fw_12 fo_12 fn_12 (by decide) fl_12_38 rfl rfl rfl (by decide) d12_init_80 (fun H locs hH => ?_)
  have hH : cx_H D B0 s (pre ++ [(q, .inr (12, [.ref a7, .ref a15, .ref a24, .ref a33, .int 0, .int 0, .int (-1 : Int32), .int 0, .int 0, .int 0, .int 0, .int 0, .int 0, .ref a46, .ref a54, .ref a62, .ref a70, .ref a78, .null, .null, .null, .null, .null, .null, .int 0, .null, .null, .null, .null, .int 0, .null, .null, .int 0, .null, .null, .null, .null, .int 0, .int 0, .null, .null, .int 0, .int 0])), (a7, .inl (cA 0, 125, .inl (fun _ => 0))), (a15, .inl (cA 0, 125, .inl (fun _ => 0))), (a24, .inl (cA 0, 2500, .inl (fun _ => 0))), (a33, .inl (cA 0, 700, .inl (fun _ => 0))), (a46, .inl (cA 0, 10, .inl (fun _ => 0))), (a54, .inl (cA 0, 10, .inl (fun _ => 0))), (a62, .inl (cA 0, 10, .inl (fun _ => 0))), (a70, .inl (cA 0, 40, .inl (fun _ => 0))), (a78, .inl (cA 0, 10, .inl (fun _ => 0)))]) H locs := hH
  refine lv_aload_n hx hb d12_init_83 rfl (lv_at hl 0 rfl) ?_
  refine lv_bipush (v := (10 : Int32)) hx hb d12_init_84 (by decide) ?_
  refine cx_newa C hH .int 0 (ty := .int) rfl rfl mA_0 (fun _ => rfl) rfl (N := 10) (by decide) (by decide) (by decide) (Nat.le_of_ble_eq_true rfl) (Nat.le_of_ble_eq_true rfl) d12_init_86 (fun a86 H hH => ?_)
  have hH : cx_H D B0 s (pre ++ [(q, .inr (12, [.ref a7, .ref a15, .ref a24, .ref a33, .int 0, .int 0, .int (-1 : Int32), .int 0, .int 0, .int 0, .int 0, .int 0, .int 0, .ref a46, .ref a54, .ref a62, .ref a70, .ref a78, .null, .null, .null, .null, .null, .null, .int 0, .null, .null, .null, .null, .int 0, .null, .null, .int 0, .null, .null, .null, .null, .int 0, .int 0, .null, .null, .int 0, .int 0])), (a7, .inl (cA 0, 125, .inl (fun _ => 0))), (a15, .inl (cA 0, 125, .inl (fun _ => 0))), (a24, .inl (cA 0, 2500, .inl (fun _ => 0))), (a33, .inl (cA 0, 700, .inl (fun _ => 0))), (a46, .inl (cA 0, 10, .inl (fun _ => 0))), (a54, .inl (cA 0, 10, .inl (fun _ => 0))), (a62, .inl (cA 0, 10, .inl (fun _ => 0))), (a70, .inl (cA 0, 40, .inl (fun _ => 0))), (a78, .inl (cA 0, 10, .inl (fun _ => 0))), (a86, .inl (cA 0, 10, .inl (fun _ => 0)))]) H locs := hH
  refine cx_put C hH (i := 0) (ci := 12) (j := 18) (N := 43) (fy := fy_12) (v := .ref a86) rfl rfl fw_12 fo_12 fn_12 (by decide) fl_12_41 rfl rfl rfl (by decide) d12_init_88 (fun H locs hH => ?_)
  have hH : cx_H D B0 s (pre ++ [(q, .inr (12, [.ref a7, .ref a15, .ref a24, .ref a33, .int 0, .int 0, .int (-1 : Int32), .int 0, .int 0, .int 0, .int 0, .int 0, .int 0, .ref a46, .ref a54, .ref a62, .ref a70, .ref a78, .ref a86, .null, .null, .null, .null, .null, .int 0, .null, .null, .null, .null, .int 0, .null, .null, .int 0, .null, .null, .null, .null, .int 0, .int 0, .null, .null, .int 0, .int 0])), (a7, .inl (cA 0, 125, .inl (fun _ => 0))), (a15, .inl (cA 0, 125, .inl (fun _ => 0))), (a24, .inl (cA 0, 2500, .inl (fun _ => 0))), (a33, .inl (cA 0, 700, .inl (fun _ => 0))), (a46, .inl (cA 0, 10, .inl (fun _ => 0))), (a54, .inl (cA 0, 10, .inl (fun _ => 0))), (a62, .inl (cA 0, 10, .inl (fun _ => 0))), (a70, .inl (cA 0, 40, .inl (fun _ => 0))), (a78, .inl (cA 0, 10, .inl (fun _ => 0))), (a86, .inl (cA 0, 10, .inl (fun _ => 0)))]) H locs := hH
  refine lv_aload_n hx hb d12_init_91 rfl (lv_at hl 0 rfl) ?_
  refine lv_bipush (v := (10 : Int32)) hx hb d12_init_92 (by decide) ?_
  refine cx_newa C hH .int 0 (ty := .int) rfl rfl mA_0 (fun _ => rfl) rfl (N := 10) (by decide) (by decide) (by decide) (Nat.le_of_ble_eq_true rfl) (Nat.le_of_ble_eq_true rfl) d12_init_94 (fun a94 H hH => ?_)
  have hH : cx_H D B0 s (pre ++ [(q, .inr (12, [.ref a7, .ref a15, .ref a24, .ref a33, .int 0, .int 0, .int (-1 : Int32), .int 0, .int 0, .int 0, .int 0, .int 0, .int 0, .ref a46, .ref a54, .ref a62, .ref a70, .ref a78, .ref a86, .null, .null, .null, .null, .null, .int 0, .null, .null, .null, .null, .int 0, .null, .null, .int 0, .null, .null, .null, .null, .int 0, .int 0, .null, .null, .int 0, .int 0])), (a7, .inl (cA 0, 125, .inl (fun _ => 0))), (a15, .inl (cA 0, 125, .inl (fun _ => 0))), (a24, .inl (cA 0, 2500, .inl (fun _ => 0))), (a33, .inl (cA 0, 700, .inl (fun _ => 0))), (a46, .inl (cA 0, 10, .inl (fun _ => 0))), (a54, .inl (cA 0, 10, .inl (fun _ => 0))), (a62, .inl (cA 0, 10, .inl (fun _ => 0))), (a70, .inl (cA 0, 40, .inl (fun _ => 0))), (a78, .inl (cA 0, 10, .inl (fun _ => 0))), (a86, .inl (cA 0, 10, .inl (fun _ => 0))), (a94, .inl (cA 0, 10, .inl (fun _ => 0)))]) H locs := hH
  refine cx_put C hH (i := 0) (ci := 12) (j := 19) (N := 43) (fy := fy_12) (v := .ref a94) rfl rfl fw_12 fo_12 fn_12 (by decide) fl_12_44 rfl rfl rfl (by decide) d12_init_96 (fun H locs hH => ?_)
  have hH : cx_H D B0 s (pre ++ [(q, .inr (12, [.ref a7, .ref a15, .ref a24, .ref a33, .int 0, .int 0, .int (-1 : Int32), .int 0, .int 0, .int 0, .int 0, .int 0, .int 0, .ref a46, .ref a54, .ref a62, .ref a70, .ref a78, .ref a86, .ref a94, .null, .null, .null, .null, .int 0, .null, .null, .null, .null, .int 0, .null, .null, .int 0, .null, .null, .null, .null, .int 0, .int 0, .null, .null, .int 0, .int 0])), (a7, .inl (cA 0, 125, .inl (fun _ => 0))), (a15, .inl (cA 0, 125, .inl (fun _ => 0))), (a24, .inl (cA 0, 2500, .inl (fun _ => 0))), (a33, .inl (cA 0, 700, .inl (fun _ => 0))), (a46, .inl (cA 0, 10, .inl (fun _ => 0))), (a54, .inl (cA 0, 10, .inl (fun _ => 0))), (a62, .inl (cA 0, 10, .inl (fun _ => 0))), (a70, .inl (cA 0, 40, .inl (fun _ => 0))), (a78, .inl (cA 0, 10, .inl (fun _ => 0))), (a86, .inl (cA 0, 10, .inl (fun _ => 0))), (a94, .inl (cA 0, 10, .inl (fun _ => 0)))]) H locs := hH
  refine lv_aload_n hx hb d12_init_99 rfl (lv_at hl 0 rfl) ?_
  refine lv_bipush (v := (10 : Int32)) hx hb d12_init_100 (by decide) ?_
  refine cx_newa C hH .int 0 (ty := .int) rfl rfl mA_0 (fun _ => rfl) rfl (N := 10) (by decide) (by decide) (by decide) (Nat.le_of_ble_eq_true rfl) (Nat.le_of_ble_eq_true rfl) d12_init_102 (fun a102 H hH => ?_)
  have hH : cx_H D B0 s (pre ++ [(q, .inr (12, [.ref a7, .ref a15, .ref a24, .ref a33, .int 0, .int 0, .int (-1 : Int32), .int 0, .int 0, .int 0, .int 0, .int 0, .int 0, .ref a46, .ref a54, .ref a62, .ref a70, .ref a78, .ref a86, .ref a94, .null, .null, .null, .null, .int 0, .null, .null, .null, .null, .int 0, .null, .null, .int 0, .null, .null, .null, .null, .int 0, .int 0, .null, .null, .int 0, .int 0])), (a7, .inl (cA 0, 125, .inl (fun _ => 0))), (a15, .inl (cA 0, 125, .inl (fun _ => 0))), (a24, .inl (cA 0, 2500, .inl (fun _ => 0))), (a33, .inl (cA 0, 700, .inl (fun _ => 0))), (a46, .inl (cA 0, 10, .inl (fun _ => 0))), (a54, .inl (cA 0, 10, .inl (fun _ => 0))), (a62, .inl (cA 0, 10, .inl (fun _ => 0))), (a70, .inl (cA 0, 40, .inl (fun _ => 0))), (a78, .inl (cA 0, 10, .inl (fun _ => 0))), (a86, .inl (cA 0, 10, .inl (fun _ => 0))), (a94, .inl (cA 0, 10, .inl (fun _ => 0))), (a102, .inl (cA 0, 10, .inl (fun _ => 0)))]) H locs := hH
  refine cx_put C hH (i := 0) (ci := 12) (j := 20) (N := 43) (fy := fy_12) (v := .ref a102) rfl rfl fw_12 fo_12 fn_12 (by decide) fl_12_47 rfl rfl rfl (by decide) d12_init_104 (fun H locs hH => ?_)
  have hH : cx_H D B0 s (pre ++ [(q, .inr (12, [.ref a7, .ref a15, .ref a24, .ref a33, .int 0, .int 0, .int (-1 : Int32), .int 0, .int 0, .int 0, .int 0, .int 0, .int 0, .ref a46, .ref a54, .ref a62, .ref a70, .ref a78, .ref a86, .ref a94, .ref a102, .null, .null, .null, .int 0, .null, .null, .null, .null, .int 0, .null, .null, .int 0, .null, .null, .null, .null, .int 0, .int 0, .null, .null, .int 0, .int 0])), (a7, .inl (cA 0, 125, .inl (fun _ => 0))), (a15, .inl (cA 0, 125, .inl (fun _ => 0))), (a24, .inl (cA 0, 2500, .inl (fun _ => 0))), (a33, .inl (cA 0, 700, .inl (fun _ => 0))), (a46, .inl (cA 0, 10, .inl (fun _ => 0))), (a54, .inl (cA 0, 10, .inl (fun _ => 0))), (a62, .inl (cA 0, 10, .inl (fun _ => 0))), (a70, .inl (cA 0, 40, .inl (fun _ => 0))), (a78, .inl (cA 0, 10, .inl (fun _ => 0))), (a86, .inl (cA 0, 10, .inl (fun _ => 0))), (a94, .inl (cA 0, 10, .inl (fun _ => 0))), (a102, .inl (cA 0, 10, .inl (fun _ => 0)))]) H locs := hH
  refine lv_aload_n hx hb d12_init_107 rfl (lv_at hl 0 rfl) ?_
  refine lv_bipush (v := (10 : Int32)) hx hb d12_init_108 (by decide) ?_
  refine cx_newa C hH .int 0 (ty := .int) rfl rfl mA_0 (fun _ => rfl) rfl (N := 10) (by decide) (by decide) (by decide) (Nat.le_of_ble_eq_true rfl) (Nat.le_of_ble_eq_true rfl) d12_init_110 (fun a110 H hH => ?_)
  have hH : cx_H D B0 s (pre ++ [(q, .inr (12, [.ref a7, .ref a15, .ref a24, .ref a33, .int 0, .int 0, .int (-1 : Int32), .int 0, .int 0, .int 0, .int 0, .int 0, .int 0, .ref a46, .ref a54, .ref a62, .ref a70, .ref a78, .ref a86, .ref a94, .ref a102, .null, .null, .null, .int 0, .null, .null, .null, .null, .int 0, .null, .null, .int 0, .null, .null, .null, .null, .int 0, .int 0, .null, .null, .int 0, .int 0])), (a7, .inl (cA 0, 125, .inl (fun _ => 0))), (a15, .inl (cA 0, 125, .inl (fun _ => 0))), (a24, .inl (cA 0, 2500, .inl (fun _ => 0))), (a33, .inl (cA 0, 700, .inl (fun _ => 0))), (a46, .inl (cA 0, 10, .inl (fun _ => 0))), (a54, .inl (cA 0, 10, .inl (fun _ => 0))), (a62, .inl (cA 0, 10, .inl (fun _ => 0))), (a70, .inl (cA 0, 40, .inl (fun _ => 0))), (a78, .inl (cA 0, 10, .inl (fun _ => 0))), (a86, .inl (cA 0, 10, .inl (fun _ => 0))), (a94, .inl (cA 0, 10, .inl (fun _ => 0))), (a102, .inl (cA 0, 10, .inl (fun _ => 0))), (a110, .inl (cA 0, 10, .inl (fun _ => 0)))]) H locs := hH
  refine cx_put C hH (i := 0) (ci := 12) (j := 21) (N := 43) (fy := fy_12) (v := .ref a110) rfl rfl fw_12 fo_12 fn_12 (by decide) fl_12_50 rfl rfl rfl (by decide) d12_init_112 (fun H locs hH => ?_)
  have hH : cx_H D B0 s (pre ++ [(q, .inr (12, [.ref a7, .ref a15, .ref a24, .ref a33, .int 0, .int 0, .int (-1 : Int32), .int 0, .int 0, .int 0, .int 0, .int 0, .int 0, .ref a46, .ref a54, .ref a62, .ref a70, .ref a78, .ref a86, .ref a94, .ref a102, .ref a110, .null, .null, .int 0, .null, .null, .null, .null, .int 0, .null, .null, .int 0, .null, .null, .null, .null, .int 0, .int 0, .null, .null, .int 0, .int 0])), (a7, .inl (cA 0, 125, .inl (fun _ => 0))), (a15, .inl (cA 0, 125, .inl (fun _ => 0))), (a24, .inl (cA 0, 2500, .inl (fun _ => 0))), (a33, .inl (cA 0, 700, .inl (fun _ => 0))), (a46, .inl (cA 0, 10, .inl (fun _ => 0))), (a54, .inl (cA 0, 10, .inl (fun _ => 0))), (a62, .inl (cA 0, 10, .inl (fun _ => 0))), (a70, .inl (cA 0, 40, .inl (fun _ => 0))), (a78, .inl (cA 0, 10, .inl (fun _ => 0))), (a86, .inl (cA 0, 10, .inl (fun _ => 0))), (a94, .inl (cA 0, 10, .inl (fun _ => 0))), (a102, .inl (cA 0, 10, .inl (fun _ => 0))), (a110, .inl (cA 0, 10, .inl (fun _ => 0)))]) H locs := hH
  refine lv_aload_n hx hb d12_init_115 rfl (lv_at hl 0 rfl) ?_
  refine lv_bipush (v := (10 : Int32)) hx hb d12_init_116 (by decide) ?_
  refine cx_newa C hH .int 0 (ty := .int) rfl rfl mA_0 (fun _ => rfl) rfl (N := 10) (by decide) (by decide) (by decide) (Nat.le_of_ble_eq_true rfl) (Nat.le_of_ble_eq_true rfl) d12_init_118 (fun a118 H hH => ?_)
  have hH : cx_H D B0 s (pre ++ [(q, .inr (12, [.ref a7, .ref a15, .ref a24, .ref a33, .int 0, .int 0, .int (-1 : Int32), .int 0, .int 0, .int 0, .int 0, .int 0, .int 0, .ref a46, .ref a54, .ref a62, .ref a70, .ref a78, .ref a86, .ref a94, .ref a102, .ref a110, .null, .null, .int 0, .null, .null, .null, .null, .int 0, .null, .null, .int 0, .null, .null, .null, .null, .int 0, .int 0, .null, .null, .int 0, .int 0])), (a7, .inl (cA 0, 125, .inl (fun _ => 0))), (a15, .inl (cA 0, 125, .inl (fun _ => 0))), (a24, .inl (cA 0, 2500, .inl (fun _ => 0))), (a33, .inl (cA 0, 700, .inl (fun _ => 0))), (a46, .inl (cA 0, 10, .inl (fun _ => 0))), (a54, .inl (cA 0, 10, .inl (fun _ => 0))), (a62, .inl (cA 0, 10, .inl (fun _ => 0))), (a70, .inl (cA 0, 40, .inl (fun _ => 0))), (a78, .inl (cA 0, 10, .inl (fun _ => 0))), (a86, .inl (cA 0, 10, .inl (fun _ => 0))), (a94, .inl (cA 0, 10, .inl (fun _ => 0))), (a102, .inl (cA 0, 10, .inl (fun _ => 0))), (a110, .inl (cA 0, 10, .inl (fun _ => 0))), (a118, .inl (cA 0, 10, .inl (fun _ => 0)))]) H locs := hH
  refine cx_put C hH (i := 0) (ci := 12) (j := 22) (N := 43) (fy := fy_12) (v := .ref a118) rfl rfl fw_12 fo_12 fn_12 (by decide) fl_12_53 rfl rfl rfl (by decide) d12_init_120 (fun H locs hH => ?_)
  have hH : cx_H D B0 s (pre ++ [(q, .inr (12, [.ref a7, .ref a15, .ref a24, .ref a33, .int 0, .int 0, .int (-1 : Int32), .int 0, .int 0, .int 0, .int 0, .int 0, .int 0, .ref a46, .ref a54, .ref a62, .ref a70, .ref a78, .ref a86, .ref a94, .ref a102, .ref a110, .ref a118, .null, .int 0, .null, .null, .null, .null, .int 0, .null, .null, .int 0, .null, .null, .null, .null, .int 0, .int 0, .null, .null, .int 0, .int 0])), (a7, .inl (cA 0, 125, .inl (fun _ => 0))), (a15, .inl (cA 0, 125, .inl (fun _ => 0))), (a24, .inl (cA 0, 2500, .inl (fun _ => 0))), (a33, .inl (cA 0, 700, .inl (fun _ => 0))), (a46, .inl (cA 0, 10, .inl (fun _ => 0))), (a54, .inl (cA 0, 10, .inl (fun _ => 0))), (a62, .inl (cA 0, 10, .inl (fun _ => 0))), (a70, .inl (cA 0, 40, .inl (fun _ => 0))), (a78, .inl (cA 0, 10, .inl (fun _ => 0))), (a86, .inl (cA 0, 10, .inl (fun _ => 0))), (a94, .inl (cA 0, 10, .inl (fun _ => 0))), (a102, .inl (cA 0, 10, .inl (fun _ => 0))), (a110, .inl (cA 0, 10, .inl (fun _ => 0))), (a118, .inl (cA 0, 10, .inl (fun _ => 0)))]) H locs := hH
  refine lv_aload_n hx hb d12_init_123 rfl (lv_at hl 0 rfl) ?_
  refine lv_bipush (v := (10 : Int32)) hx hb d12_init_124 (by decide) ?_
  refine cx_newa C hH .int 0 (ty := .int) rfl rfl mA_0 (fun _ => rfl) rfl (N := 10) (by decide) (by decide) (by decide) (Nat.le_of_ble_eq_true rfl) (Nat.le_of_ble_eq_true rfl) d12_init_126 (fun a126 H hH => ?_)
  have hH : cx_H D B0 s (pre ++ [(q, .inr (12, [.ref a7, .ref a15, .ref a24, .ref a33, .int 0, .int 0, .int (-1 : Int32), .int 0, .int 0, .int 0, .int 0, .int 0, .int 0, .ref a46, .ref a54, .ref a62, .ref a70, .ref a78, .ref a86, .ref a94, .ref a102, .ref a110, .ref a118, .null, .int 0, .null, .null, .null, .null, .int 0, .null, .null, .int 0, .null, .null, .null, .null, .int 0, .int 0, .null, .null, .int 0, .int 0])), (a7, .inl (cA 0, 125, .inl (fun _ => 0))), (a15, .inl (cA 0, 125, .inl (fun _ => 0))), (a24, .inl (cA 0, 2500, .inl (fun _ => 0))), (a33, .inl (cA 0, 700, .inl (fun _ => 0))), (a46, .inl (cA 0, 10, .inl (fun _ => 0))), (a54, .inl (cA 0, 10, .inl (fun _ => 0))), (a62, .inl (cA 0, 10, .inl (fun _ => 0))), (a70, .inl (cA 0, 40, .inl (fun _ => 0))), (a78, .inl (cA 0, 10, .inl (fun _ => 0))), (a86, .inl (cA 0, 10, .inl (fun _ => 0))), (a94, .inl (cA 0, 10, .inl (fun _ => 0))), (a102, .inl (cA 0, 10, .inl (fun _ => 0))), (a110, .inl (cA 0, 10, .inl (fun _ => 0))), (a118, .inl (cA 0, 10, .inl (fun _ => 0))), (a126, .inl (cA 0, 10, .inl (fun _ => 0)))]) H locs := hH
  refine cx_put C hH (i := 0) (ci := 12) (j := 23) (N := 43) (fy := fy_12) (v := .ref a126) rfl rfl fw_12 fo_12 fn_12 (by decide) fl_12_56 rfl rfl rfl (by decide) d12_init_128 (fun H locs hH => ?_)
  have hH : cx_H D B0 s (pre ++ [(q, .inr (12, [.ref a7, .ref a15, .ref a24, .ref a33, .int 0, .int 0, .int (-1 : Int32), .int 0, .int 0, .int 0, .int 0, .int 0, .int 0, .ref a46, .ref a54, .ref a62, .ref a70, .ref a78, .ref a86, .ref a94, .ref a102, .ref a110, .ref a118, .ref a126, .int 0, .null, .null, .null, .null, .int 0, .null, .null, .int 0, .null, .null, .null, .null, .int 0, .int 0, .null, .null, .int 0, .int 0])), (a7, .inl (cA 0, 125, .inl (fun _ => 0))), (a15, .inl (cA 0, 125, .inl (fun _ => 0))), (a24, .inl (cA 0, 2500, .inl (fun _ => 0))), (a33, .inl (cA 0, 700, .inl (fun _ => 0))), (a46, .inl (cA 0, 10, .inl (fun _ => 0))), (a54, .inl (cA 0, 10, .inl (fun _ => 0))), (a62, .inl (cA 0, 10, .inl (fun _ => 0))), (a70, .inl (cA 0, 40, .inl (fun _ => 0))), (a78, .inl (cA 0, 10, .inl (fun _ => 0))), (a86, .inl (cA 0, 10, .inl (fun _ => 0))), (a94, .inl (cA 0, 10, .inl (fun _ => 0))), (a102, .inl (cA 0, 10, .inl (fun _ => 0))), (a110, .inl (cA 0, 10, .inl (fun _ => 0))), (a118, .inl (cA 0, 10, .inl (fun _ => 0))), (a126, .inl (cA 0, 10, .inl (fun _ => 0)))]) H locs := hH
  refine lv_aload_n hx hb d12_init_131 rfl (lv_at hl 0 rfl) ?_
  refine lv_bipush (v := (10 : Int32)) hx hb d12_init_132 (by decide) ?_
  refine cx_newa C hH .int 0 (ty := .int) rfl rfl mA_0 (fun _ => rfl) rfl (N := 10) (by decide) (by decide) (by decide) (Nat.le_of_ble_eq_true rfl) (Nat.le_of_ble_eq_true rfl) d12_init_134 (fun a134 H hH => ?_)
  have hH : cx_H D B0 s (pre ++ [(q, .inr (12, [.ref a7, .ref a15, .ref a24, .ref a33, .int 0, .int 0, .int (-1 : Int32), .int 0, .int 0, .int 0, .int 0, .int 0, .int 0, .ref a46, .ref a54, .ref a62, .ref a70, .ref a78, .ref a86, .ref a94, .ref a102, .ref a110, .ref a118, .ref a126, .int 0, .null, .null, .null, .null, .int 0, .null, .null, .int 0, .null, .null, .null, .null, .int 0, .int 0, .null, .null, .int 0, .int 0])), (a7, .inl (cA 0, 125, .inl (fun _ => 0))), (a15, .inl (cA 0, 125, .inl (fun _ => 0))), (a24, .inl (cA 0, 2500, .inl (fun _ => 0))), (a33, .inl (cA 0, 700, .inl (fun _ => 0))), (a46, .inl (cA 0, 10, .inl (fun _ => 0))), (a54, .inl (cA 0, 10, .inl (fun _ => 0))), (a62, .inl (cA 0, 10, .inl (fun _ => 0))), (a70, .inl (cA 0, 40, .inl (fun _ => 0))), (a78, .inl (cA 0, 10, .inl (fun _ => 0))), (a86, .inl (cA 0, 10, .inl (fun _ => 0))), (a94, .inl (cA 0, 10, .inl (fun _ => 0))), (a102, .inl (cA 0, 10, .inl (fun _ => 0))), (a110, .inl (cA 0, 10, .inl (fun _ => 0))), (a118, .inl (cA 0, 10, .inl (fun _ => 0))), (a126, .inl (cA 0, 10, .inl (fun _ => 0))), (a134, .inl (cA 0, 10, .inl (fun _ => 0)))]) H locs := hH
  refine cx_put C hH (i := 0) (ci := 12) (j := 25) (N := 43) (fy := fy_12) (v := .ref a134) rfl rfl fw_12 fo_12 fn_12 (by decide) fl_12_59 rfl rfl rfl (by decide) d12_init_136 (fun H locs hH => ?_)
  have hH : cx_H D B0 s (pre ++ [(q, .inr (12, [.ref a7, .ref a15, .ref a24, .ref a33, .int 0, .int 0, .int (-1 : Int32), .int 0, .int 0, .int 0, .int 0, .int 0, .int 0, .ref a46, .ref a54, .ref a62, .ref a70, .ref a78, .ref a86, .ref a94, .ref a102, .ref a110, .ref a118, .ref a126, .int 0, .ref a134, .null, .null, .null, .int 0, .null, .null, .int 0, .null, .null, .null, .null, .int 0, .int 0, .null, .null, .int 0, .int 0])), (a7, .inl (cA 0, 125, .inl (fun _ => 0))), (a15, .inl (cA 0, 125, .inl (fun _ => 0))), (a24, .inl (cA 0, 2500, .inl (fun _ => 0))), (a33, .inl (cA 0, 700, .inl (fun _ => 0))), (a46, .inl (cA 0, 10, .inl (fun _ => 0))), (a54, .inl (cA 0, 10, .inl (fun _ => 0))), (a62, .inl (cA 0, 10, .inl (fun _ => 0))), (a70, .inl (cA 0, 40, .inl (fun _ => 0))), (a78, .inl (cA 0, 10, .inl (fun _ => 0))), (a86, .inl (cA 0, 10, .inl (fun _ => 0))), (a94, .inl (cA 0, 10, .inl (fun _ => 0))), (a102, .inl (cA 0, 10, .inl (fun _ => 0))), (a110, .inl (cA 0, 10, .inl (fun _ => 0))), (a118, .inl (cA 0, 10, .inl (fun _ => 0))), (a126, .inl (cA 0, 10, .inl (fun _ => 0))), (a134, .inl (cA 0, 10, .inl (fun _ => 0)))]) H locs := hH
  refine lv_aload_n hx hb d12_init_139 rfl (lv_at hl 0 rfl) ?_
  refine lv_bipush (v := (10 : Int32)) hx hb d12_init_140 (by decide) ?_
  refine cx_newa C hH .int 0 (ty := .int) rfl rfl mA_0 (fun _ => rfl) rfl (N := 10) (by decide) (by decide) (by decide) (Nat.le_of_ble_eq_true rfl) (Nat.le_of_ble_eq_true rfl) d12_init_142 (fun a142 H hH => ?_)
  have hH : cx_H D B0 s (pre ++ [(q, .inr (12, [.ref a7, .ref a15, .ref a24, .ref a33, .int 0, .int 0, .int (-1 : Int32), .int 0, .int 0, .int 0, .int 0, .int 0, .int 0, .ref a46, .ref a54, .ref a62, .ref a70, .ref a78, .ref a86, .ref a94, .ref a102, .ref a110, .ref a118, .ref a126, .int 0, .ref a134, .null, .null, .null, .int 0, .null, .null, .int 0, .null, .null, .null, .null, .int 0, .int 0, .null, .null, .int 0, .int 0])), (a7, .inl (cA 0, 125, .inl (fun _ => 0))), (a15, .inl (cA 0, 125, .inl (fun _ => 0))), (a24, .inl (cA 0, 2500, .inl (fun _ => 0))), (a33, .inl (cA 0, 700, .inl (fun _ => 0))), (a46, .inl (cA 0, 10, .inl (fun _ => 0))), (a54, .inl (cA 0, 10, .inl (fun _ => 0))), (a62, .inl (cA 0, 10, .inl (fun _ => 0))), (a70, .inl (cA 0, 40, .inl (fun _ => 0))), (a78, .inl (cA 0, 10, .inl (fun _ => 0))), (a86, .inl (cA 0, 10, .inl (fun _ => 0))), (a94, .inl (cA 0, 10, .inl (fun _ => 0))), (a102, .inl (cA 0, 10, .inl (fun _ => 0))), (a110, .inl (cA 0, 10, .inl (fun _ => 0))), (a118, .inl (cA 0, 10, .inl (fun _ => 0))), (a126, .inl (cA 0, 10, .inl (fun _ => 0))), (a134, .inl (cA 0, 10, .inl (fun _ => 0))), (a142, .inl (cA 0, 10, .inl (fun _ => 0)))]) H locs := hH
  refine cx_put C hH (i := 0) (ci := 12) (j := 26) (N := 43) (fy := fy_12) (v := .ref a142) rfl rfl fw_12 fo_12 fn_12 (by decide) fl_12_62 rfl rfl rfl (by decide) d12_init_144 (fun H locs hH => ?_)
  have hH : cx_H D B0 s (pre ++ [(q, .inr (12, [.ref a7, .ref a15, .ref a24, .ref a33, .int 0, .int 0, .int (-1 : Int32), .int 0, .int 0, .int 0, .int 0, .int 0, .int 0, .ref a46, .ref a54, .ref a62, .ref a70, .ref a78, .ref a86, .ref a94, .ref a102, .ref a110, .ref a118, .ref a126, .int 0, .ref a134, .ref a142, .null, .null, .int 0, .null, .null, .int 0, .null, .null, .null, .null, .int 0, .int 0, .null, .null, .int 0, .int 0])), (a7, .inl (cA 0, 125, .inl (fun _ => 0))), (a15, .inl (cA 0, 125, .inl (fun _ => 0))), (a24, .inl (cA 0, 2500, .inl (fun _ => 0))), (a33, .inl (cA 0, 700, .inl (fun _ => 0))), (a46, .inl (cA 0, 10, .inl (fun _ => 0))), (a54, .inl (cA 0, 10, .inl (fun _ => 0))), (a62, .inl (cA 0, 10, .inl (fun _ => 0))), (a70, .inl (cA 0, 40, .inl (fun _ => 0))), (a78, .inl (cA 0, 10, .inl (fun _ => 0))), (a86, .inl (cA 0, 10, .inl (fun _ => 0))), (a94, .inl (cA 0, 10, .inl (fun _ => 0))), (a102, .inl (cA 0, 10, .inl (fun _ => 0))), (a110, .inl (cA 0, 10, .inl (fun _ => 0))), (a118, .inl (cA 0, 10, .inl (fun _ => 0))), (a126, .inl (cA 0, 10, .inl (fun _ => 0))), (a134, .inl (cA 0, 10, .inl (fun _ => 0))), (a142, .inl (cA 0, 10, .inl (fun _ => 0)))]) H locs := hH
  refine lv_aload_n hx hb d12_init_147 rfl (lv_at hl 0 rfl) ?_
  refine lv_bipush (v := (12 : Int32)) hx hb d12_init_148 (by decide) ?_
  refine cx_newa C hH .int 0 (ty := .int) rfl rfl mA_0 (fun _ => rfl) rfl (N := 12) (by decide) (by decide) (by decide) (Nat.le_of_ble_eq_true rfl) (Nat.le_of_ble_eq_true rfl) d12_init_150 (fun a150 H hH => ?_)
  have hH : cx_H D B0 s (pre ++ [(q, .inr (12, [.ref a7, .ref a15, .ref a24, .ref a33, .int 0, .int 0, .int (-1 : Int32), .int 0, .int 0, .int 0, .int 0, .int 0, .int 0, .ref a46, .ref a54, .ref a62, .ref a70, .ref a78, .ref a86, .ref a94, .ref a102, .ref a110, .ref a118, .ref a126, .int 0, .ref a134, .ref a142, .null, .null, .int 0, .null, .null, .int 0, .null, .null, .null, .null, .int 0, .int 0, .null, .null, .int 0, .int 0])), (a7, .inl (cA 0, 125, .inl (fun _ => 0))), (a15, .inl (cA 0, 125, .inl (fun _ => 0))), (a24, .inl (cA 0, 2500, .inl (fun _ => 0))), (a33, .inl (cA 0, 700, .inl (fun _ => 0))), (a46, .inl (cA 0, 10, .inl (fun _ => 0))), (a54, .inl (cA 0, 10, .inl (fun _ => 0))), (a62, .inl (cA 0, 10, .inl (fun _ => 0))), (a70, .inl (cA 0, 40, .inl (fun _ => 0))), (a78, .inl (cA 0, 10, .inl (fun _ => 0))), (a86, .inl (cA 0, 10, .inl (fun _ => 0))), (a94, .inl (cA 0, 10, .inl (fun _ => 0))), (a102, .inl (cA 0, 10, .inl (fun _ => 0))), (a110, .inl (cA 0, 10, .inl (fun _ => 0))), (a118, .inl (cA 0, 10, .inl (fun _ => 0))), (a126, .inl (cA 0, 10, .inl (fun _ => 0))), (a134, .inl (cA 0, 10, .inl (fun _ => 0))), (a142, .inl (cA 0, 10, .inl (fun _ => 0))), (a150, .inl (cA 0, 12, .inl (fun _ => 0)))]) H locs := hH
  refine cx_put C hH (i := 0) (ci := 12) (j := 27) (N := 43) (fy := fy_12) (v := .ref a150) rfl rfl fw_12 fo_12 fn_12 (by decide) fl_12_65 rfl rfl rfl (by decide) d12_init_152 (fun H locs hH => ?_)
  have hH : cx_H D B0 s (pre ++ [(q, .inr (12, [.ref a7, .ref a15, .ref a24, .ref a33, .int 0, .int 0, .int (-1 : Int32), .int 0, .int 0, .int 0, .int 0, .int 0, .int 0, .ref a46, .ref a54, .ref a62, .ref a70, .ref a78, .ref a86, .ref a94, .ref a102, .ref a110, .ref a118, .ref a126, .int 0, .ref a134, .ref a142, .ref a150, .null, .int 0, .null, .null, .int 0, .null, .null, .null, .null, .int 0, .int 0, .null, .null, .int 0, .int 0])), (a7, .inl (cA 0, 125, .inl (fun _ => 0))), (a15, .inl (cA 0, 125, .inl (fun _ => 0))), (a24, .inl (cA 0, 2500, .inl (fun _ => 0))), (a33, .inl (cA 0, 700, .inl (fun _ => 0))), (a46, .inl (cA 0, 10, .inl (fun _ => 0))), (a54, .inl (cA 0, 10, .inl (fun _ => 0))), (a62, .inl (cA 0, 10, .inl (fun _ => 0))), (a70, .inl (cA 0, 40, .inl (fun _ => 0))), (a78, .inl (cA 0, 10, .inl (fun _ => 0))), (a86, .inl (cA 0, 10, .inl (fun _ => 0))), (a94, .inl (cA 0, 10, .inl (fun _ => 0))), (a102, .inl (cA 0, 10, .inl (fun _ => 0))), (a110, .inl (cA 0, 10, .inl (fun _ => 0))), (a118, .inl (cA 0, 10, .inl (fun _ => 0))), (a126, .inl (cA 0, 10, .inl (fun _ => 0))), (a134, .inl (cA 0, 10, .inl (fun _ => 0))), (a142, .inl (cA 0, 10, .inl (fun _ => 0))), (a150, .inl (cA 0, 12, .inl (fun _ => 0)))]) H locs := hH
  refine lv_aload_n hx hb d12_init_155 rfl (lv_at hl 0 rfl) ?_
  refine lv_bipush (v := (48 : Int32)) hx hb d12_init_156 (by decide) ?_
  refine cx_newa C hH .int 0 (ty := .int) rfl rfl mA_0 (fun _ => rfl) rfl (N := 48) (by decide) (by decide) (by decide) (Nat.le_of_ble_eq_true rfl) (Nat.le_of_ble_eq_true rfl) d12_init_158 (fun a158 H hH => ?_)
  have hH : cx_H D B0 s (pre ++ [(q, .inr (12, [.ref a7, .ref a15, .ref a24, .ref a33, .int 0, .int 0, .int (-1 : Int32), .int 0, .int 0, .int 0, .int 0, .int 0, .int 0, .ref a46, .ref a54, .ref a62, .ref a70, .ref a78, .ref a86, .ref a94, .ref a102, .ref a110, .ref a118, .ref a126, .int 0, .ref a134, .ref a142, .ref a150, .null, .int 0, .null, .null, .int 0, .null, .null, .null, .null, .int 0, .int 0, .null, .null, .int 0, .int 0])), (a7, .inl (cA 0, 125, .inl (fun _ => 0))), (a15, .inl (cA 0, 125, .inl (fun _ => 0))), (a24, .inl (cA 0, 2500, .inl (fun _ => 0))), (a33, .inl (cA 0, 700, .inl (fun _ => 0))), (a46, .inl (cA 0, 10, .inl (fun _ => 0))), (a54, .inl (cA 0, 10, .inl (fun _ => 0))), (a62, .inl (cA 0, 10, .inl (fun _ => 0))), (a70, .inl (cA 0, 40, .inl (fun _ => 0))), (a78, .inl (cA 0, 10, .inl (fun _ => 0))), (a86, .inl (cA 0, 10, .inl (fun _ => 0))), (a94, .inl (cA 0, 10, .inl (fun _ => 0))), (a102, .inl (cA 0, 10, .inl (fun _ => 0))), (a110, .inl (cA 0, 10, .inl (fun _ => 0))), (a118, .inl (cA 0, 10, .inl (fun _ => 0))), (a126, .inl (cA 0, 10, .inl (fun _ => 0))), (a134, .inl (cA 0, 10, .inl (fun _ => 0))), (a142, .inl (cA 0, 10, .inl (fun _ => 0))), (a150, .inl (cA 0, 12, .inl (fun _ => 0))), (a158, .inl (cA 0, 48, .inl (fun _ => 0)))]) H locs := hH
  refine cx_put C hH (i := 0) (ci := 12) (j := 28) (N := 43) (fy := fy_12) (v := .ref a158) rfl rfl fw_12 fo_12 fn_12 (by decide) fl_12_68 rfl rfl rfl (by decide) d12_init_160 (fun H locs hH => ?_)
  have hH : cx_H D B0 s (pre ++ [(q, .inr (12, [.ref a7, .ref a15, .ref a24, .ref a33, .int 0, .int 0, .int (-1 : Int32), .int 0, .int 0, .int 0, .int 0, .int 0, .int 0, .ref a46, .ref a54, .ref a62, .ref a70, .ref a78, .ref a86, .ref a94, .ref a102, .ref a110, .ref a118, .ref a126, .int 0, .ref a134, .ref a142, .ref a150, .ref a158, .int 0, .null, .null, .int 0, .null, .null, .null, .null, .int 0, .int 0, .null, .null, .int 0, .int 0])), (a7, .inl (cA 0, 125, .inl (fun _ => 0))), (a15, .inl (cA 0, 125, .inl (fun _ => 0))), (a24, .inl (cA 0, 2500, .inl (fun _ => 0))), (a33, .inl (cA 0, 700, .inl (fun _ => 0))), (a46, .inl (cA 0, 10, .inl (fun _ => 0))), (a54, .inl (cA 0, 10, .inl (fun _ => 0))), (a62, .inl (cA 0, 10, .inl (fun _ => 0))), (a70, .inl (cA 0, 40, .inl (fun _ => 0))), (a78, .inl (cA 0, 10, .inl (fun _ => 0))), (a86, .inl (cA 0, 10, .inl (fun _ => 0))), (a94, .inl (cA 0, 10, .inl (fun _ => 0))), (a102, .inl (cA 0, 10, .inl (fun _ => 0))), (a110, .inl (cA 0, 10, .inl (fun _ => 0))), (a118, .inl (cA 0, 10, .inl (fun _ => 0))), (a126, .inl (cA 0, 10, .inl (fun _ => 0))), (a134, .inl (cA 0, 10, .inl (fun _ => 0))), (a142, .inl (cA 0, 10, .inl (fun _ => 0))), (a150, .inl (cA 0, 12, .inl (fun _ => 0))), (a158, .inl (cA 0, 48, .inl (fun _ => 0)))]) H locs := hH
  refine lv_aload_n hx hb d12_init_163 rfl (lv_at hl 0 rfl) ?_
  refine lv_bipush (v := (13 : Int32)) hx hb d12_init_164 (by decide) ?_
  refine cx_newa C hH .int 0 (ty := .int) rfl rfl mA_0 (fun _ => rfl) rfl (N := 13) (by decide) (by decide) (by decide) (Nat.le_of_ble_eq_true rfl) (Nat.le_of_ble_eq_true rfl) d12_init_166 (fun a166 H hH => ?_)
  have hH : cx_H D B0 s (pre ++ [(q, .inr (12, [.ref a7, .ref a15, .ref a24, .ref a33, .int 0, .int 0, .int (-1 : Int32), .int 0, .int 0, .int 0, .int 0, .int 0, .int 0, .ref a46, .ref a54, .ref a62, .ref a70, .ref a78, .ref a86, .ref a94, .ref a102, .ref a110, .ref a118, .ref a126, .int 0, .ref a134, .ref a142, .ref a150, .ref a158, .int 0, .null, .null, .int 0, .null, .null, .null, .null, .int 0, .int 0, .null, .null, .int 0, .int 0])), (a7, .inl (cA 0, 125, .inl (fun _ => 0))), (a15, .inl (cA 0, 125, .inl (fun _ => 0))), (a24, .inl (cA 0, 2500, .inl (fun _ => 0))), (a33, .inl (cA 0, 700, .inl (fun _ => 0))), (a46, .inl (cA 0, 10, .inl (fun _ => 0))), (a54, .inl (cA 0, 10, .inl (fun _ => 0))), (a62, .inl (cA 0, 10, .inl (fun _ => 0))), (a70, .inl (cA 0, 40, .inl (fun _ => 0))), (a78, .inl (cA 0, 10, .inl (fun _ => 0))), (a86, .inl (cA 0, 10, .inl (fun _ => 0))), (a94, .inl (cA 0, 10, .inl (fun _ => 0))), (a102, .inl (cA 0, 10, .inl (fun _ => 0))), (a110, .inl (cA 0, 10, .inl (fun _ => 0))), (a118, .inl (cA 0, 10, .inl (fun _ => 0))), (a126, .inl (cA 0, 10, .inl (fun _ => 0))), (a134, .inl (cA 0, 10, .inl (fun _ => 0))), (a142, .inl (cA 0, 10, .inl (fun _ => 0))), (a150, .inl (cA 0, 12, .inl (fun _ => 0))), (a158, .inl (cA 0, 48, .inl (fun _ => 0))), (a166, .inl (cA 0, 13, .inl (fun _ => 0)))]) H locs := hH
  refine cx_put C hH (i := 0) (ci := 12) (j := 30) (N := 43) (fy := fy_12) (v := .ref a166) rfl rfl fw_12 fo_12 fn_12 (by decide) fl_12_71 rfl rfl rfl (by decide) d12_init_168 (fun H locs hH => ?_)
  have hH : cx_H D B0 s (pre ++ [(q, .inr (12, [.ref a7, .ref a15, .ref a24, .ref a33, .int 0, .int 0, .int (-1 : Int32), .int 0, .int 0, .int 0, .int 0, .int 0, .int 0, .ref a46, .ref a54, .ref a62, .ref a70, .ref a78, .ref a86, .ref a94, .ref a102, .ref a110, .ref a118, .ref a126, .int 0, .ref a134, .ref a142, .ref a150, .ref a158, .int 0, .ref a166, .null, .int 0, .null, .null, .null, .null, .int 0, .int 0, .null, .null, .int 0, .int 0])), (a7, .inl (cA 0, 125, .inl (fun _ => 0))), (a15, .inl (cA 0, 125, .inl (fun _ => 0))), (a24, .inl (cA 0, 2500, .inl (fun _ => 0))), (a33, .inl (cA 0, 700, .inl (fun _ => 0))), (a46, .inl (cA 0, 10, .inl (fun _ => 0))), (a54, .inl (cA 0, 10, .inl (fun _ => 0))), (a62, .inl (cA 0, 10, .inl (fun _ => 0))), (a70, .inl (cA 0, 40, .inl (fun _ => 0))), (a78, .inl (cA 0, 10, .inl (fun _ => 0))), (a86, .inl (cA 0, 10, .inl (fun _ => 0))), (a94, .inl (cA 0, 10, .inl (fun _ => 0))), (a102, .inl (cA 0, 10, .inl (fun _ => 0))), (a110, .inl (cA 0, 10, .inl (fun _ => 0))), (a118, .inl (cA 0, 10, .inl (fun _ => 0))), (a126, .inl (cA 0, 10, .inl (fun _ => 0))), (a134, .inl (cA 0, 10, .inl (fun _ => 0))), (a142, .inl (cA 0, 10, .inl (fun _ => 0))), (a150, .inl (cA 0, 12, .inl (fun _ => 0))), (a158, .inl (cA 0, 48, .inl (fun _ => 0))), (a166, .inl (cA 0, 13, .inl (fun _ => 0)))]) H locs := hH
  refine lv_aload_n hx hb d12_init_171 rfl (lv_at hl 0 rfl) ?_
  refine lv_bipush (v := (52 : Int32)) hx hb d12_init_172 (by decide) ?_
  refine cx_newa C hH .int 0 (ty := .int) rfl rfl mA_0 (fun _ => rfl) rfl (N := 52) (by decide) (by decide) (by decide) (Nat.le_of_ble_eq_true rfl) (Nat.le_of_ble_eq_true rfl) d12_init_174 (fun a174 H hH => ?_)
  have hH : cx_H D B0 s (pre ++ [(q, .inr (12, [.ref a7, .ref a15, .ref a24, .ref a33, .int 0, .int 0, .int (-1 : Int32), .int 0, .int 0, .int 0, .int 0, .int 0, .int 0, .ref a46, .ref a54, .ref a62, .ref a70, .ref a78, .ref a86, .ref a94, .ref a102, .ref a110, .ref a118, .ref a126, .int 0, .ref a134, .ref a142, .ref a150, .ref a158, .int 0, .ref a166, .null, .int 0, .null, .null, .null, .null, .int 0, .int 0, .null, .null, .int 0, .int 0])), (a7, .inl (cA 0, 125, .inl (fun _ => 0))), (a15, .inl (cA 0, 125, .inl (fun _ => 0))), (a24, .inl (cA 0, 2500, .inl (fun _ => 0))), (a33, .inl (cA 0, 700, .inl (fun _ => 0))), (a46, .inl (cA 0, 10, .inl (fun _ => 0))), (a54, .inl (cA 0, 10, .inl (fun _ => 0))), (a62, .inl (cA 0, 10, .inl (fun _ => 0))), (a70, .inl (cA 0, 40, .inl (fun _ => 0))), (a78, .inl (cA 0, 10, .inl (fun _ => 0))), (a86, .inl (cA 0, 10, .inl (fun _ => 0))), (a94, .inl (cA 0, 10, .inl (fun _ => 0))), (a102, .inl (cA 0, 10, .inl (fun _ => 0))), (a110, .inl (cA 0, 10, .inl (fun _ => 0))), (a118, .inl (cA 0, 10, .inl (fun _ => 0))), (a126, .inl (cA 0, 10, .inl (fun _ => 0))), (a134, .inl (cA 0, 10, .inl (fun _ => 0))), (a142, .inl (cA 0, 10, .inl (fun _ => 0))), (a150, .inl (cA 0, 12, .inl (fun _ => 0))), (a158, .inl (cA 0, 48, .inl (fun _ => 0))), (a166, .inl (cA 0, 13, .inl (fun _ => 0))), (a174, .inl (cA 0, 52, .inl (fun _ => 0)))]) H locs := hH
  refine cx_put C hH (i := 0) (ci := 12) (j := 31) (N := 43) (fy := fy_12) (v := .ref a174) rfl rfl fw_12 fo_12 fn_12 (by decide) fl_12_74 rfl rfl rfl (by decide) d12_init_176 (fun H locs hH => ?_)
  have hH : cx_H D B0 s (pre ++ [(q, .inr (12, [.ref a7, .ref a15, .ref a24, .ref a33, .int 0, .int 0, .int (-1 : Int32), .int 0, .int 0, .int 0, .int 0, .int 0, .int 0, .ref a46, .ref a54, .ref a62, .ref a70, .ref a78, .ref a86, .ref a94, .ref a102, .ref a110, .ref a118, .ref a126, .int 0, .ref a134, .ref a142, .ref a150, .ref a158, .int 0, .ref a166, .ref a174, .int 0, .null, .null, .null, .null, .int 0, .int 0, .null, .null, .int 0, .int 0])), (a7, .inl (cA 0, 125, .inl (fun _ => 0))), (a15, .inl (cA 0, 125, .inl (fun _ => 0))), (a24, .inl (cA 0, 2500, .inl (fun _ => 0))), (a33, .inl (cA 0, 700, .inl (fun _ => 0))), (a46, .inl (cA 0, 10, .inl (fun _ => 0))), (a54, .inl (cA 0, 10, .inl (fun _ => 0))), (a62, .inl (cA 0, 10, .inl (fun _ => 0))), (a70, .inl (cA 0, 40, .inl (fun _ => 0))), (a78, .inl (cA 0, 10, .inl (fun _ => 0))), (a86, .inl (cA 0, 10, .inl (fun _ => 0))), (a94, .inl (cA 0, 10, .inl (fun _ => 0))), (a102, .inl (cA 0, 10, .inl (fun _ => 0))), (a110, .inl (cA 0, 10, .inl (fun _ => 0))), (a118, .inl (cA 0, 10, .inl (fun _ => 0))), (a126, .inl (cA 0, 10, .inl (fun _ => 0))), (a134, .inl (cA 0, 10, .inl (fun _ => 0))), (a142, .inl (cA 0, 10, .inl (fun _ => 0))), (a150, .inl (cA 0, 12, .inl (fun _ => 0))), (a158, .inl (cA 0, 48, .inl (fun _ => 0))), (a166, .inl (cA 0, 13, .inl (fun _ => 0))), (a174, .inl (cA 0, 52, .inl (fun _ => 0)))]) H locs := hH
  refine lv_aload_n hx hb d12_init_179 rfl (lv_at hl 0 rfl) ?_
  refine lv_bipush (v := (12 : Int32)) hx hb d12_init_180 (by decide) ?_
  refine cx_newa C hH .int 0 (ty := .int) rfl rfl mA_0 (fun _ => rfl) rfl (N := 12) (by decide) (by decide) (by decide) (Nat.le_of_ble_eq_true rfl) (Nat.le_of_ble_eq_true rfl) d12_init_182 (fun a182 H hH => ?_)
  have hH : cx_H D B0 s (pre ++ [(q, .inr (12, [.ref a7, .ref a15, .ref a24, .ref a33, .int 0, .int 0, .int (-1 : Int32), .int 0, .int 0, .int 0, .int 0, .int 0, .int 0, .ref a46, .ref a54, .ref a62, .ref a70, .ref a78, .ref a86, .ref a94, .ref a102, .ref a110, .ref a118, .ref a126, .int 0, .ref a134, .ref a142, .ref a150, .ref a158, .int 0, .ref a166, .ref a174, .int 0, .null, .null, .null, .null, .int 0, .int 0, .null, .null, .int 0, .int 0])), (a7, .inl (cA 0, 125, .inl (fun _ => 0))), (a15, .inl (cA 0, 125, .inl (fun _ => 0))), (a24, .inl (cA 0, 2500, .inl (fun _ => 0))), (a33, .inl (cA 0, 700, .inl (fun _ => 0))), (a46, .inl (cA 0, 10, .inl (fun _ => 0))), (a54, .inl (cA 0, 10, .inl (fun _ => 0))), (a62, .inl (cA 0, 10, .inl (fun _ => 0))), (a70, .inl (cA 0, 40, .inl (fun _ => 0))), (a78, .inl (cA 0, 10, .inl (fun _ => 0))), (a86, .inl (cA 0, 10, .inl (fun _ => 0))), (a94, .inl (cA 0, 10, .inl (fun _ => 0))), (a102, .inl (cA 0, 10, .inl (fun _ => 0))), (a110, .inl (cA 0, 10, .inl (fun _ => 0))), (a118, .inl (cA 0, 10, .inl (fun _ => 0))), (a126, .inl (cA 0, 10, .inl (fun _ => 0))), (a134, .inl (cA 0, 10, .inl (fun _ => 0))), (a142, .inl (cA 0, 10, .inl (fun _ => 0))), (a150, .inl (cA 0, 12, .inl (fun _ => 0))), (a158, .inl (cA 0, 48, .inl (fun _ => 0))), (a166, .inl (cA 0, 13, .inl (fun _ => 0))), (a174, .inl (cA 0, 52, .inl (fun _ => 0))), (a182, .inl (cA 0, 12, .inl (fun _ => 0)))]) H locs := hH
  refine cx_put C hH (i := 0) (ci := 12) (j := 33) (N := 43) (fy := fy_12) (v := .ref a182) rfl rfl fw_12 fo_12 fn_12 (by decide) fl_12_77 rfl rfl rfl (by decide) d12_init_184 (fun H locs hH => ?_)
  have hH : cx_H D B0 s (pre ++ [(q, .inr (12, [.ref a7, .ref a15, .ref a24, .ref a33, .int 0, .int 0, .int (-1 : Int32), .int 0, .int 0, .int 0, .int 0, .int 0, .int 0, .ref a46, .ref a54, .ref a62, .ref a70, .ref a78, .ref a86, .ref a94, .ref a102, .ref a110, .ref a118, .ref a126, .int 0, .ref a134, .ref a142, .ref a150, .ref a158, .int 0, .ref a166, .ref a174, .int 0, .ref a182, .null, .null, .null, .int 0, .int 0, .null, .null, .int 0, .int 0])), (a7, .inl (cA 0, 125, .inl (fun _ => 0))), (a15, .inl (cA 0, 125, .inl (fun _ => 0))), (a24, .inl (cA 0, 2500, .inl (fun _ => 0))), (a33, .inl (cA 0, 700, .inl (fun _ => 0))), (a46, .inl (cA 0, 10, .inl (fun _ => 0))), (a54, .inl (cA 0, 10, .inl (fun _ => 0))), (a62, .inl (cA 0, 10, .inl (fun _ => 0))), (a70, .inl (cA 0, 40, .inl (fun _ => 0))), (a78, .inl (cA 0, 10, .inl (fun _ => 0))), (a86, .inl (cA 0, 10, .inl (fun _ => 0))), (a94, .inl (cA 0, 10, .inl (fun _ => 0))), (a102, .inl (cA 0, 10, .inl (fun _ => 0))), (a110, .inl (cA 0, 10, .inl (fun _ => 0))), (a118, .inl (cA 0, 10, .inl (fun _ => 0))), (a126, .inl (cA 0, 10, .inl (fun _ => 0))), (a134, .inl (cA 0, 10, .inl (fun _ => 0))), (a142, .inl (cA 0, 10, .inl (fun _ => 0))), (a150, .inl (cA 0, 12, .inl (fun _ => 0))), (a158, .inl (cA 0, 48, .inl (fun _ => 0))), (a166, .inl (cA 0, 13, .inl (fun _ => 0))), (a174, .inl (cA 0, 52, .inl (fun _ => 0))), (a182, .inl (cA 0, 12, .inl (fun _ => 0)))]) H locs := hH
  refine lv_aload_n hx hb d12_init_187 rfl (lv_at hl 0 rfl) ?_
  refine lv_bipush (v := (12 : Int32)) hx hb d12_init_188 (by decide) ?_
  refine cx_newa C hH .int 0 (ty := .int) rfl rfl mA_0 (fun _ => rfl) rfl (N := 12) (by decide) (by decide) (by decide) (Nat.le_of_ble_eq_true rfl) (Nat.le_of_ble_eq_true rfl) d12_init_190 (fun a190 H hH => ?_)
  have hH : cx_H D B0 s (pre ++ [(q, .inr (12, [.ref a7, .ref a15, .ref a24, .ref a33, .int 0, .int 0, .int (-1 : Int32), .int 0, .int 0, .int 0, .int 0, .int 0, .int 0, .ref a46, .ref a54, .ref a62, .ref a70, .ref a78, .ref a86, .ref a94, .ref a102, .ref a110, .ref a118, .ref a126, .int 0, .ref a134, .ref a142, .ref a150, .ref a158, .int 0, .ref a166, .ref a174, .int 0, .ref a182, .null, .null, .null, .int 0, .int 0, .null, .null, .int 0, .int 0])), (a7, .inl (cA 0, 125, .inl (fun _ => 0))), (a15, .inl (cA 0, 125, .inl (fun _ => 0))), (a24, .inl (cA 0, 2500, .inl (fun _ => 0))), (a33, .inl (cA 0, 700, .inl (fun _ => 0))), (a46, .inl (cA 0, 10, .inl (fun _ => 0))), (a54, .inl (cA 0, 10, .inl (fun _ => 0))), (a62, .inl (cA 0, 10, .inl (fun _ => 0))), (a70, .inl (cA 0, 40, .inl (fun _ => 0))), (a78, .inl (cA 0, 10, .inl (fun _ => 0))), (a86, .inl (cA 0, 10, .inl (fun _ => 0))), (a94, .inl (cA 0, 10, .inl (fun _ => 0))), (a102, .inl (cA 0, 10, .inl (fun _ => 0))), (a110, .inl (cA 0, 10, .inl (fun _ => 0))), (a118, .inl (cA 0, 10, .inl (fun _ => 0))), (a126, .inl (cA 0, 10, .inl (fun _ => 0))), (a134, .inl (cA 0, 10, .inl (fun _ => 0))), (a142, .inl (cA 0, 10, .inl (fun _ => 0))), (a150, .inl (cA 0, 12, .inl (fun _ => 0))), (a158, .inl (cA 0, 48, .inl (fun _ => 0))), (a166, .inl (cA 0, 13, .inl (fun _ => 0))), (a174, .inl (cA 0, 52, .inl (fun _ => 0))), (a182, .inl (cA 0, 12, .inl (fun _ => 0))), (a190, .inl (cA 0, 12, .inl (fun _ => 0)))]) H locs := hH
  refine cx_put C hH (i := 0) (ci := 12) (j := 34) (N := 43) (fy := fy_12) (v := .ref a190) rfl rfl fw_12 fo_12 fn_12 (by decide) fl_12_80 rfl rfl rfl (by decide) d12_init_192 (fun H locs hH => ?_)
  have hH : cx_H D B0 s (pre ++ [(q, .inr (12, [.ref a7, .ref a15, .ref a24, .ref a33, .int 0, .int 0, .int (-1 : Int32), .int 0, .int 0, .int 0, .int 0, .int 0, .int 0, .ref a46, .ref a54, .ref a62, .ref a70, .ref a78, .ref a86, .ref a94, .ref a102, .ref a110, .ref a118, .ref a126, .int 0, .ref a134, .ref a142, .ref a150, .ref a158, .int 0, .ref a166, .ref a174, .int 0, .ref a182, .ref a190, .null, .null, .int 0, .int 0, .null, .null, .int 0, .int 0])), (a7, .inl (cA 0, 125, .inl (fun _ => 0))), (a15, .inl (cA 0, 125, .inl (fun _ => 0))), (a24, .inl (cA 0, 2500, .inl (fun _ => 0))), (a33, .inl (cA 0, 700, .inl (fun _ => 0))), (a46, .inl (cA 0, 10, .inl (fun _ => 0))), (a54, .inl (cA 0, 10, .inl (fun _ => 0))), (a62, .inl (cA 0, 10, .inl (fun _ => 0))), (a70, .inl (cA 0, 40, .inl (fun _ => 0))), (a78, .inl (cA 0, 10, .inl (fun _ => 0))), (a86, .inl (cA 0, 10, .inl (fun _ => 0))), (a94, .inl (cA 0, 10, .inl (fun _ => 0))), (a102, .inl (cA 0, 10, .inl (fun _ => 0))), (a110, .inl (cA 0, 10, .inl (fun _ => 0))), (a118, .inl (cA 0, 10, .inl (fun _ => 0))), (a126, .inl (cA 0, 10, .inl (fun _ => 0))), (a134, .inl (cA 0, 10, .inl (fun _ => 0))), (a142, .inl (cA 0, 10, .inl (fun _ => 0))), (a150, .inl (cA 0, 12, .inl (fun _ => 0))), (a158, .inl (cA 0, 48, .inl (fun _ => 0))), (a166, .inl (cA 0, 13, .inl (fun _ => 0))), (a174, .inl (cA 0, 52, .inl (fun _ => 0))), (a182, .inl (cA 0, 12, .inl (fun _ => 0))), (a190, .inl (cA 0, 12, .inl (fun _ => 0)))]) H locs := hH
  refine lv_aload_n hx hb d12_init_195 rfl (lv_at hl 0 rfl) ?_
  refine lv_bipush (v := (12 : Int32)) hx hb d12_init_196 (by decide) ?_
  refine cx_newa C hH .int 0 (ty := .int) rfl rfl mA_0 (fun _ => rfl) rfl (N := 12) (by decide) (by decide) (by decide) (Nat.le_of_ble_eq_true rfl) (Nat.le_of_ble_eq_true rfl) d12_init_198 (fun a198 H hH => ?_)
  have hH : cx_H D B0 s (pre ++ [(q, .inr (12, [.ref a7, .ref a15, .ref a24, .ref a33, .int 0, .int 0, .int (-1 : Int32), .int 0, .int 0, .int 0, .int 0, .int 0, .int 0, .ref a46, .ref a54, .ref a62, .ref a70, .ref a78, .ref a86, .ref a94, .ref a102, .ref a110, .ref a118, .ref a126, .int 0, .ref a134, .ref a142, .ref a150, .ref a158, .int 0, .ref a166, .ref a174, .int 0, .ref a182, .ref a190, .null, .null, .int 0, .int 0, .null, .null, .int 0, .int 0])), (a7, .inl (cA 0, 125, .inl (fun _ => 0))), (a15, .inl (cA 0, 125, .inl (fun _ => 0))), (a24, .inl (cA 0, 2500, .inl (fun _ => 0))), (a33, .inl (cA 0, 700, .inl (fun _ => 0))), (a46, .inl (cA 0, 10, .inl (fun _ => 0))), (a54, .inl (cA 0, 10, .inl (fun _ => 0))), (a62, .inl (cA 0, 10, .inl (fun _ => 0))), (a70, .inl (cA 0, 40, .inl (fun _ => 0))), (a78, .inl (cA 0, 10, .inl (fun _ => 0))), (a86, .inl (cA 0, 10, .inl (fun _ => 0))), (a94, .inl (cA 0, 10, .inl (fun _ => 0))), (a102, .inl (cA 0, 10, .inl (fun _ => 0))), (a110, .inl (cA 0, 10, .inl (fun _ => 0))), (a118, .inl (cA 0, 10, .inl (fun _ => 0))), (a126, .inl (cA 0, 10, .inl (fun _ => 0))), (a134, .inl (cA 0, 10, .inl (fun _ => 0))), (a142, .inl (cA 0, 10, .inl (fun _ => 0))), (a150, .inl (cA 0, 12, .inl (fun _ => 0))), (a158, .inl (cA 0, 48, .inl (fun _ => 0))), (a166, .inl (cA 0, 13, .inl (fun _ => 0))), (a174, .inl (cA 0, 52, .inl (fun _ => 0))), (a182, .inl (cA 0, 12, .inl (fun _ => 0))), (a190, .inl (cA 0, 12, .inl (fun _ => 0))), (a198, .inl (cA 0, 12, .inl (fun _ => 0)))]) H locs := hH
  refine cx_put C hH (i := 0) (ci := 12) (j := 35) (N := 43) (fy := fy_12) (v := .ref a198) rfl rfl fw_12 fo_12 fn_12 (by decide) fl_12_83 rfl rfl rfl (by decide) d12_init_200 (fun H locs hH => ?_)
  have hH : cx_H D B0 s (pre ++ [(q, .inr (12, [.ref a7, .ref a15, .ref a24, .ref a33, .int 0, .int 0, .int (-1 : Int32), .int 0, .int 0, .int 0, .int 0, .int 0, .int 0, .ref a46, .ref a54, .ref a62, .ref a70, .ref a78, .ref a86, .ref a94, .ref a102, .ref a110, .ref a118, .ref a126, .int 0, .ref a134, .ref a142, .ref a150, .ref a158, .int 0, .ref a166, .ref a174, .int 0, .ref a182, .ref a190, .ref a198, .null, .int 0, .int 0, .null, .null, .int 0, .int 0])), (a7, .inl (cA 0, 125, .inl (fun _ => 0))), (a15, .inl (cA 0, 125, .inl (fun _ => 0))), (a24, .inl (cA 0, 2500, .inl (fun _ => 0))), (a33, .inl (cA 0, 700, .inl (fun _ => 0))), (a46, .inl (cA 0, 10, .inl (fun _ => 0))), (a54, .inl (cA 0, 10, .inl (fun _ => 0))), (a62, .inl (cA 0, 10, .inl (fun _ => 0))), (a70, .inl (cA 0, 40, .inl (fun _ => 0))), (a78, .inl (cA 0, 10, .inl (fun _ => 0))), (a86, .inl (cA 0, 10, .inl (fun _ => 0))), (a94, .inl (cA 0, 10, .inl (fun _ => 0))), (a102, .inl (cA 0, 10, .inl (fun _ => 0))), (a110, .inl (cA 0, 10, .inl (fun _ => 0))), (a118, .inl (cA 0, 10, .inl (fun _ => 0))), (a126, .inl (cA 0, 10, .inl (fun _ => 0))), (a134, .inl (cA 0, 10, .inl (fun _ => 0))), (a142, .inl (cA 0, 10, .inl (fun _ => 0))), (a150, .inl (cA 0, 12, .inl (fun _ => 0))), (a158, .inl (cA 0, 48, .inl (fun _ => 0))), (a166, .inl (cA 0, 13, .inl (fun _ => 0))), (a174, .inl (cA 0, 52, .inl (fun _ => 0))), (a182, .inl (cA 0, 12, .inl (fun _ => 0))), (a190, .inl (cA 0, 12, .inl (fun _ => 0))), (a198, .inl (cA 0, 12, .inl (fun _ => 0)))]) H locs := hH
  refine lv_aload_n hx hb d12_init_203 rfl (lv_at hl 0 rfl) ?_
  refine lv_bipush (v := (13 : Int32)) hx hb d12_init_204 (by decide) ?_
  refine cx_newa C hH .int 0 (ty := .int) rfl rfl mA_0 (fun _ => rfl) rfl (N := 13) (by decide) (by decide) (by decide) (Nat.le_of_ble_eq_true rfl) (Nat.le_of_ble_eq_true rfl) d12_init_206 (fun a206 H hH => ?_)
  have hH : cx_H D B0 s (pre ++ [(q, .inr (12, [.ref a7, .ref a15, .ref a24, .ref a33, .int 0, .int 0, .int (-1 : Int32), .int 0, .int 0, .int 0, .int 0, .int 0, .int 0, .ref a46, .ref a54, .ref a62, .ref a70, .ref a78, .ref a86, .ref a94, .ref a102, .ref a110, .ref a118, .ref a126, .int 0, .ref a134, .ref a142, .ref a150, .ref a158, .int 0, .ref a166, .ref a174, .int 0, .ref a182, .ref a190, .ref a198, .null, .int 0, .int 0, .null, .null, .int 0, .int 0])), (a7, .inl (cA 0, 125, .inl (fun _ => 0))), (a15, .inl (cA 0, 125, .inl (fun _ => 0))), (a24, .inl (cA 0, 2500, .inl (fun _ => 0))), (a33, .inl (cA 0, 700, .inl (fun _ => 0))), (a46, .inl (cA 0, 10, .inl (fun _ => 0))), (a54, .inl (cA 0, 10, .inl (fun _ => 0))), (a62, .inl (cA 0, 10, .inl (fun _ => 0))), (a70, .inl (cA 0, 40, .inl (fun _ => 0))), (a78, .inl (cA 0, 10, .inl (fun _ => 0))), (a86, .inl (cA 0, 10, .inl (fun _ => 0))), (a94, .inl (cA 0, 10, .inl (fun _ => 0))), (a102, .inl (cA 0, 10, .inl (fun _ => 0))), (a110, .inl (cA 0, 10, .inl (fun _ => 0))), (a118, .inl (cA 0, 10, .inl (fun _ => 0))), (a126, .inl (cA 0, 10, .inl (fun _ => 0))), (a134, .inl (cA 0, 10, .inl (fun _ => 0))), (a142, .inl (cA 0, 10, .inl (fun _ => 0))), (a150, .inl (cA 0, 12, .inl (fun _ => 0))), (a158, .inl (cA 0, 48, .inl (fun _ => 0))), (a166, .inl (cA 0, 13, .inl (fun _ => 0))), (a174, .inl (cA 0, 52, .inl (fun _ => 0))), (a182, .inl (cA 0, 12, .inl (fun _ => 0))), (a190, .inl (cA 0, 12, .inl (fun _ => 0))), (a198, .inl (cA 0, 12, .inl (fun _ => 0))), (a206, .inl (cA 0, 13, .inl (fun _ => 0)))]) H locs := hH
  refine cx_put C hH (i := 0) (ci := 12) (j := 36) (N := 43) (fy := fy_12) (v := .ref a206) rfl rfl fw_12 fo_12 fn_12 (by decide) fl_12_86 rfl rfl rfl (by decide) d12_init_208 (fun H locs hH => ?_)
  have hH : cx_H D B0 s (pre ++ [(q, .inr (12, [.ref a7, .ref a15, .ref a24, .ref a33, .int 0, .int 0, .int (-1 : Int32), .int 0, .int 0, .int 0, .int 0, .int 0, .int 0, .ref a46, .ref a54, .ref a62, .ref a70, .ref a78, .ref a86, .ref a94, .ref a102, .ref a110, .ref a118, .ref a126, .int 0, .ref a134, .ref a142, .ref a150, .ref a158, .int 0, .ref a166, .ref a174, .int 0, .ref a182, .ref a190, .ref a198, .ref a206, .int 0, .int 0, .null, .null, .int 0, .int 0])), (a7, .inl (cA 0, 125, .inl (fun _ => 0))), (a15, .inl (cA 0, 125, .inl (fun _ => 0))), (a24, .inl (cA 0, 2500, .inl (fun _ => 0))), (a33, .inl (cA 0, 700, .inl (fun _ => 0))), (a46, .inl (cA 0, 10, .inl (fun _ => 0))), (a54, .inl (cA 0, 10, .inl (fun _ => 0))), (a62, .inl (cA 0, 10, .inl (fun _ => 0))), (a70, .inl (cA 0, 40, .inl (fun _ => 0))), (a78, .inl (cA 0, 10, .inl (fun _ => 0))), (a86, .inl (cA 0, 10, .inl (fun _ => 0))), (a94, .inl (cA 0, 10, .inl (fun _ => 0))), (a102, .inl (cA 0, 10, .inl (fun _ => 0))), (a110, .inl (cA 0, 10, .inl (fun _ => 0))), (a118, .inl (cA 0, 10, .inl (fun _ => 0))), (a126, .inl (cA 0, 10, .inl (fun _ => 0))), (a134, .inl (cA 0, 10, .inl (fun _ => 0))), (a142, .inl (cA 0, 10, .inl (fun _ => 0))), (a150, .inl (cA 0, 12, .inl (fun _ => 0))), (a158, .inl (cA 0, 48, .inl (fun _ => 0))), (a166, .inl (cA 0, 13, .inl (fun _ => 0))), (a174, .inl (cA 0, 52, .inl (fun _ => 0))), (a182, .inl (cA 0, 12, .inl (fun _ => 0))), (a190, .inl (cA 0, 12, .inl (fun _ => 0))), (a198, .inl (cA 0, 12, .inl (fun _ => 0))), (a206, .inl (cA 0, 13, .inl (fun _ => 0)))]) H locs := hH
  refine lv_aload_n hx hb d12_init_211 rfl (lv_at hl 0 rfl) ?_
  refine lv_bipush (v := (10 : Int32)) hx hb d12_init_212 (by decide) ?_
  refine cx_newa C hH .int 0 (ty := .int) rfl rfl mA_0 (fun _ => rfl) rfl (N := 10) (by decide) (by decide) (by decide) (Nat.le_of_ble_eq_true rfl) (Nat.le_of_ble_eq_true rfl) d12_init_214 (fun a214 H hH => ?_)
  have hH : cx_H D B0 s (pre ++ [(q, .inr (12, [.ref a7, .ref a15, .ref a24, .ref a33, .int 0, .int 0, .int (-1 : Int32), .int 0, .int 0, .int 0, .int 0, .int 0, .int 0, .ref a46, .ref a54, .ref a62, .ref a70, .ref a78, .ref a86, .ref a94, .ref a102, .ref a110, .ref a118, .ref a126, .int 0, .ref a134, .ref a142, .ref a150, .ref a158, .int 0, .ref a166, .ref a174, .int 0, .ref a182, .ref a190, .ref a198, .ref a206, .int 0, .int 0, .null, .null, .int 0, .int 0])), (a7, .inl (cA 0, 125, .inl (fun _ => 0))), (a15, .inl (cA 0, 125, .inl (fun _ => 0))), (a24, .inl (cA 0, 2500, .inl (fun _ => 0))), (a33, .inl (cA 0, 700, .inl (fun _ => 0))), (a46, .inl (cA 0, 10, .inl (fun _ => 0))), (a54, .inl (cA 0, 10, .inl (fun _ => 0))), (a62, .inl (cA 0, 10, .inl (fun _ => 0))), (a70, .inl (cA 0, 40, .inl (fun _ => 0))), (a78, .inl (cA 0, 10, .inl (fun _ => 0))), (a86, .inl (cA 0, 10, .inl (fun _ => 0))), (a94, .inl (cA 0, 10, .inl (fun _ => 0))), (a102, .inl (cA 0, 10, .inl (fun _ => 0))), (a110, .inl (cA 0, 10, .inl (fun _ => 0))), (a118, .inl (cA 0, 10, .inl (fun _ => 0))), (a126, .inl (cA 0, 10, .inl (fun _ => 0))), (a134, .inl (cA 0, 10, .inl (fun _ => 0))), (a142, .inl (cA 0, 10, .inl (fun _ => 0))), (a150, .inl (cA 0, 12, .inl (fun _ => 0))), (a158, .inl (cA 0, 48, .inl (fun _ => 0))), (a166, .inl (cA 0, 13, .inl (fun _ => 0))), (a174, .inl (cA 0, 52, .inl (fun _ => 0))), (a182, .inl (cA 0, 12, .inl (fun _ => 0))), (a190, .inl (cA 0, 12, .inl (fun _ => 0))), (a198, .inl (cA 0, 12, .inl (fun _ => 0))), (a206, .inl (cA 0, 13, .inl (fun _ => 0))), (a214, .inl (cA 0, 10, .inl (fun _ => 0)))]) H locs := hH
  refine cx_put C hH (i := 0) (ci := 12) (j := 39) (N := 43) (fy := fy_12) (v := .ref a214) rfl rfl fw_12 fo_12 fn_12 (by decide) fl_12_89 rfl rfl rfl (by decide) d12_init_216 (fun H locs hH => ?_)
  have hH : cx_H D B0 s (pre ++ [(q, .inr (12, [.ref a7, .ref a15, .ref a24, .ref a33, .int 0, .int 0, .int (-1 : Int32), .int 0, .int 0, .int 0, .int 0, .int 0, .int 0, .ref a46, .ref a54, .ref a62, .ref a70, .ref a78, .ref a86, .ref a94, .ref a102, .ref a110, .ref a118, .ref a126, .int 0, .ref a134, .ref a142, .ref a150, .ref a158, .int 0, .ref a166, .ref a174, .int 0, .ref a182, .ref a190, .ref a198, .ref a206, .int 0, .int 0, .ref a214, .null, .int 0, .int 0])), (a7, .inl (cA 0, 125, .inl (fun _ => 0))), (a15, .inl (cA 0, 125, .inl (fun _ => 0))), (a24, .inl (cA 0, 2500, .inl (fun _ => 0))), (a33, .inl (cA 0, 700, .inl (fun _ => 0))), (a46, .inl (cA 0, 10, .inl (fun _ => 0))), (a54, .inl (cA 0, 10, .inl (fun _ => 0))), (a62, .inl (cA 0, 10, .inl (fun _ => 0))), (a70, .inl (cA 0, 40, .inl (fun _ => 0))), (a78, .inl (cA 0, 10, .inl (fun _ => 0))), (a86, .inl (cA 0, 10, .inl (fun _ => 0))), (a94, .inl (cA 0, 10, .inl (fun _ => 0))), (a102, .inl (cA 0, 10, .inl (fun _ => 0))), (a110, .inl (cA 0, 10, .inl (fun _ => 0))), (a118, .inl (cA 0, 10, .inl (fun _ => 0))), (a126, .inl (cA 0, 10, .inl (fun _ => 0))), (a134, .inl (cA 0, 10, .inl (fun _ => 0))), (a142, .inl (cA 0, 10, .inl (fun _ => 0))), (a150, .inl (cA 0, 12, .inl (fun _ => 0))), (a158, .inl (cA 0, 48, .inl (fun _ => 0))), (a166, .inl (cA 0, 13, .inl (fun _ => 0))), (a174, .inl (cA 0, 52, .inl (fun _ => 0))), (a182, .inl (cA 0, 12, .inl (fun _ => 0))), (a190, .inl (cA 0, 12, .inl (fun _ => 0))), (a198, .inl (cA 0, 12, .inl (fun _ => 0))), (a206, .inl (cA 0, 13, .inl (fun _ => 0))), (a214, .inl (cA 0, 10, .inl (fun _ => 0)))]) H locs := hH
  refine lv_aload_n hx hb d12_init_219 rfl (lv_at hl 0 rfl) ?_
  refine lv_bipush (v := (10 : Int32)) hx hb d12_init_220 (by decide) ?_
  refine cx_newa C hH .int 0 (ty := .int) rfl rfl mA_0 (fun _ => rfl) rfl (N := 10) (by decide) (by decide) (by decide) (Nat.le_of_ble_eq_true rfl) (Nat.le_of_ble_eq_true rfl) d12_init_222 (fun a222 H hH => ?_)
  have hH : cx_H D B0 s (pre ++ [(q, .inr (12, [.ref a7, .ref a15, .ref a24, .ref a33, .int 0, .int 0, .int (-1 : Int32), .int 0, .int 0, .int 0, .int 0, .int 0, .int 0, .ref a46, .ref a54, .ref a62, .ref a70, .ref a78, .ref a86, .ref a94, .ref a102, .ref a110, .ref a118, .ref a126, .int 0, .ref a134, .ref a142, .ref a150, .ref a158, .int 0, .ref a166, .ref a174, .int 0, .ref a182, .ref a190, .ref a198, .ref a206, .int 0, .int 0, .ref a214, .null, .int 0, .int 0])), (a7, .inl (cA 0, 125, .inl (fun _ => 0))), (a15, .inl (cA 0, 125, .inl (fun _ => 0))), (a24, .inl (cA 0, 2500, .inl (fun _ => 0))), (a33, .inl (cA 0, 700, .inl (fun _ => 0))), (a46, .inl (cA 0, 10, .inl (fun _ => 0))), (a54, .inl (cA 0, 10, .inl (fun _ => 0))), (a62, .inl (cA 0, 10, .inl (fun _ => 0))), (a70, .inl (cA 0, 40, .inl (fun _ => 0))), (a78, .inl (cA 0, 10, .inl (fun _ => 0))), (a86, .inl (cA 0, 10, .inl (fun _ => 0))), (a94, .inl (cA 0, 10, .inl (fun _ => 0))), (a102, .inl (cA 0, 10, .inl (fun _ => 0))), (a110, .inl (cA 0, 10, .inl (fun _ => 0))), (a118, .inl (cA 0, 10, .inl (fun _ => 0))), (a126, .inl (cA 0, 10, .inl (fun _ => 0))), (a134, .inl (cA 0, 10, .inl (fun _ => 0))), (a142, .inl (cA 0, 10, .inl (fun _ => 0))), (a150, .inl (cA 0, 12, .inl (fun _ => 0))), (a158, .inl (cA 0, 48, .inl (fun _ => 0))), (a166, .inl (cA 0, 13, .inl (fun _ => 0))), (a174, .inl (cA 0, 52, .inl (fun _ => 0))), (a182, .inl (cA 0, 12, .inl (fun _ => 0))), (a190, .inl (cA 0, 12, .inl (fun _ => 0))), (a198, .inl (cA 0, 12, .inl (fun _ => 0))), (a206, .inl (cA 0, 13, .inl (fun _ => 0))), (a214, .inl (cA 0, 10, .inl (fun _ => 0))), (a222, .inl (cA 0, 10, .inl (fun _ => 0)))]) H locs := hH
  refine cx_put C hH (i := 0) (ci := 12) (j := 40) (N := 43) (fy := fy_12) (v := .ref a222) rfl rfl fw_12 fo_12 fn_12 (by decide) fl_12_92 rfl rfl rfl (by decide) d12_init_224 (fun H locs hH => ?_)
  have hH : cx_H D B0 s (pre ++ [(q, .inr (12, [.ref a7, .ref a15, .ref a24, .ref a33, .int 0, .int 0, .int (-1 : Int32), .int 0, .int 0, .int 0, .int 0, .int 0, .int 0, .ref a46, .ref a54, .ref a62, .ref a70, .ref a78, .ref a86, .ref a94, .ref a102, .ref a110, .ref a118, .ref a126, .int 0, .ref a134, .ref a142, .ref a150, .ref a158, .int 0, .ref a166, .ref a174, .int 0, .ref a182, .ref a190, .ref a198, .ref a206, .int 0, .int 0, .ref a214, .ref a222, .int 0, .int 0])), (a7, .inl (cA 0, 125, .inl (fun _ => 0))), (a15, .inl (cA 0, 125, .inl (fun _ => 0))), (a24, .inl (cA 0, 2500, .inl (fun _ => 0))), (a33, .inl (cA 0, 700, .inl (fun _ => 0))), (a46, .inl (cA 0, 10, .inl (fun _ => 0))), (a54, .inl (cA 0, 10, .inl (fun _ => 0))), (a62, .inl (cA 0, 10, .inl (fun _ => 0))), (a70, .inl (cA 0, 40, .inl (fun _ => 0))), (a78, .inl (cA 0, 10, .inl (fun _ => 0))), (a86, .inl (cA 0, 10, .inl (fun _ => 0))), (a94, .inl (cA 0, 10, .inl (fun _ => 0))), (a102, .inl (cA 0, 10, .inl (fun _ => 0))), (a110, .inl (cA 0, 10, .inl (fun _ => 0))), (a118, .inl (cA 0, 10, .inl (fun _ => 0))), (a126, .inl (cA 0, 10, .inl (fun _ => 0))), (a134, .inl (cA 0, 10, .inl (fun _ => 0))), (a142, .inl (cA 0, 10, .inl (fun _ => 0))), (a150, .inl (cA 0, 12, .inl (fun _ => 0))), (a158, .inl (cA 0, 48, .inl (fun _ => 0))), (a166, .inl (cA 0, 13, .inl (fun _ => 0))), (a174, .inl (cA 0, 52, .inl (fun _ => 0))), (a182, .inl (cA 0, 12, .inl (fun _ => 0))), (a190, .inl (cA 0, 12, .inl (fun _ => 0))), (a198, .inl (cA 0, 12, .inl (fun _ => 0))), (a206, .inl (cA 0, 13, .inl (fun _ => 0))), (a214, .inl (cA 0, 10, .inl (fun _ => 0))), (a222, .inl (cA 0, 10, .inl (fun _ => 0)))]) H locs := hH
  exact cx_ret C (ce_sok aK aV B0) (a7, a15, a24, a33, a46, a54, a62, a70, a78, a86, a94, a102, a110, a118, a126, a134, a142, a150, a158, a166, a174, a182, a190, a198, a206, a214, a222) trivial hH d12_init_227
