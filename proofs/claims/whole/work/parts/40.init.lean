-- the constructors, written by wip/whole/gen/gen40.py out of the bytecode
/-- Arrays.fill over any world -/
theorem cx_fill (l : Launch) (D : va_G) (cA : Nat → ClassId) (aK aV : Nat → Nat) (B0 : Nat) (pre L : va_W) (i a n : Nat) (f : Nat → Int32) (v : Int32) (he : L[i]? = some (a, .inl (cA 0, n, .inl f))) (hn : n < 2147483648) : cx_Ct l D cA B0 (ce_St aK aV B0) y7_fill_53178 b7_fill_53178 4 0 0 0 0 [.ref a, .int v] (pre ++ L) (fun (g : Nat → Int32) => ∀ j, j < n → g j = v) (fun g => pre ++ L.set i (a, .inl (cA 0, n, .inl g))) := by
  refine Met.ofW (cc := b7_fill_53178) (maxL := 4) (ret := none) (by decide) rfl ?_
  intro p e0 s m args below meth c s₁ B hml hv
  obtain ⟨rfl, hP, hD, hK, hB, hSt⟩ := hv
  have hl := lv_entry [Value.ref a, .int v] (n := 4) (Nat.le_of_ble_eq_true rfl)
  rw [lg_entry_eq]
  generalize (lg_sl [Value.ref a, .int v] ++ List.replicate (4 - (lg_sl [Value.ref a, .int v]).length) Slot.unset).toArray = ls at hl ⊢
  have hl : lv_has ls 4 [(0, .ref a), (1, .int v)] := hl
  have hx := B.exec
  have hb := B.bytes
  have hr := B.returns
  have hlk := B.notSynchronized
  have he2 : (pre ++ L)[pre.length + i]? = some (a, .inl (cA 0, n, .inl f)) := cx_at he
  refine lv_iconst (v := 0) hx hb d7_fill_53178_0 (by decide) ?_
  refine lv_istore_n (lv' := [(2, .int 0), (0, .ref a), (1, .int v)]) hx hb d7_fill_53178_1 rfl hl (by decide) rfl (fun ls hl => ?_)
  refine lv_aload_n hx hb d7_fill_53178_2 rfl (lv_at hl 1 rfl) ?_
  refine va_alen (v := nI n) (D := D) hx hb hK hP (pre.length + i) 0 he2 (ty := .int) rfl rfl d7_fill_53178_3 ?_
  refine lv_istore_n (lv' := [(3, .int (nI n)), (2, .int 0), (0, .ref a), (1, .int v)]) hx hb d7_fill_53178_4 rfl hl (by decide) rfl (fun ls hl => ?_)
  have loop : ∀ (k j : Nat), j ≤ n → n ≤ j + k → ∀ (g : Nat → Int32) (H : Heap) (locs : List Loc) (ls : Array Slot), (∀ x, x < j → g x = v) → va_P D ce_cl (pre ++ L.set i (a, .inl (cA 0, n, .inl g))) H → va_D (fun q => B0 ≤ q) (pre ++ L.set i (a, .inl (cA 0, n, .inl g))) → va_S (fun q => B0 ≤ q) s.heap H locs → lv_has ls 4 [(2, .int (nI j)), (3, .int (nI n)), (0, .ref a), (1, .int v)] →
      W p l e0 { frames := 0, cells := 0, slots := 0, locals := 0 } s m [Value.ref a, .int v].toArray below meth c H locs 0 0 (MQ below (cx_Q D cA B0 (ce_St aK aV B0) (fun (g : Nat → Int32) => ∀ j, j < n → g j = v) (fun g => pre ++ L.set i (a, .inl (cA 0, n, .inl g)))) [Value.ref a, .int v].toArray s 0 0 (fun q => B0 ≤ q)) (F0 m 5 ls []) := by
    have hil : i < L.length := (List.getElem?_eq_some_iff.mp he).1
    intro k
    induction k with
    | zero =>
      intro j h1 h2 g H locs ls hg hP hD hS hl
      have : j = n := by omega
      subst this
      refine lv_iload_n hx hb d7_fill_53178_5 rfl (lv_at hl 0 rfl) ?_
      refine lv_iload_n hx hb d7_fill_53178_6 rfl (lv_at hl 1 rfl) ?_
      refine lv_icmp_ge (tgt := 20) hx hb d7_fill_53178_7 (by decide) (fun hc => ?_) (fun hc => absurd (Int32.le_refl _) hc)
      exact W.vret (Qc := cx_Q D cA B0 (ce_St aK aV B0) (fun (g : Nat → Int32) => ∀ x, x < j → g x = v) (fun g => pre ++ L.set i (a, .inl (cA 0, j, .inl g)))) hx hb hr (fun t ht hW => ⟨⟨rfl, g, hg, by rw [ht]; exact hP, hD, va_K.moved hW.alike hK, by rw [ht]; exact Nat.le_trans hB hS.1, (ce_sok aK aV B0).1 s t hW hSt (fun q q1 q2 => by rw [ht]; exact hS.2.1 q q1 q2)⟩, hS.F ht⟩) hS.2.2 d7_fill_53178_20 hlk
    | succ k ih =>
      intro j h1 h2 g H locs ls hg hP hD hS hl
      refine lv_iload_n hx hb d7_fill_53178_5 rfl (lv_at hl 0 rfl) ?_
      refine lv_iload_n hx hb d7_fill_53178_6 rfl (lv_at hl 1 rfl) ?_
      refine lv_icmp_ge (tgt := 20) hx hb d7_fill_53178_7 (by decide) (fun hc => ?_) (fun hc => ?_)
      · have : j = n := by
          have := (nI_leI hn (Nat.lt_of_le_of_lt h1 hn)).mp hc
          omega
        subst this
        exact W.vret (Qc := cx_Q D cA B0 (ce_St aK aV B0) (fun (g : Nat → Int32) => ∀ x, x < j → g x = v) (fun g => pre ++ L.set i (a, .inl (cA 0, j, .inl g)))) hx hb hr (fun t ht hW => ⟨⟨rfl, g, hg, by rw [ht]; exact hP, hD, va_K.moved hW.alike hK, by rw [ht]; exact Nat.le_trans hB hS.1, (ce_sok aK aV B0).1 s t hW hSt (fun q q1 q2 => by rw [ht]; exact hS.2.1 q q1 q2)⟩, hS.F ht⟩) hS.2.2 d7_fill_53178_20 hlk
      · have hj : j < n := by
          rcases Nat.lt_or_ge j n with z | z
          · exact z
          · exact absurd (nI_le z (Nat.lt_of_le_of_lt h1 hn)) hc
        refine lv_aload_n hx hb d7_fill_53178_10 rfl (lv_at hl 2 rfl) ?_
        refine lv_iload_n hx hb d7_fill_53178_11 rfl (lv_at hl 0 rfl) ?_
        refine lv_iload_n hx hb d7_fill_53178_12 rfl (lv_at hl 3 rfl) ?_
        refine va_iast (D := D) hx hb hK hP hD hS (pre.length + i) 0 (cx_at (by rw [List.getElem?_set_self hil])) rfl (vp_in_nI hj hn) d7_fill_53178_13 (fun H locs hP hD hS => ?_)
        rw [cx_set, List.set_set, nI_clamp (Nat.lt_trans hj hn)] at hP hD
        refine lv_iinc (v := nI (j + 1)) (lv' := [(2, .int (nI (j + 1))), (3, .int (nI n)), (0, .ref a), (1, .int v)]) hx hb d7_fill_53178_14 hl (k := 0) rfl (by rw [show Int32.ofInt 1 = 1 from rfl]; exact nI_1 j) (by decide) rfl (fun ls hl => ?_)
        refine lv_goto (tgt := 5) hx hb d7_fill_53178_17 (by decide) ?_
        refine ih (j + 1) (by omega) (by omega) _ H locs ls (fun x hx => ?_) hP hD hS hl
        by_cases hxj : x = j
        · simp [upd, hxj]
        · simp only [upd, hxj, if_false]
          exact hg x (by omega)
  have h0 : L.set i (a, .inl (cA 0, n, .inl f)) = L := by
    apply List.ext_getElem?
    intro x
    by_cases hx : x = i
    · subst hx
      rw [List.getElem?_set_self (List.getElem?_eq_some_iff.mp he).1, he]
    · rw [List.getElem?_set_ne (fun z => hx z.symm)]
  exact loop n 0 (Nat.zero_le _) (by omega) f s.heap [] ls (fun x hx => absurd hx (by omega)) (by rw [h0]; exact hP) (by rw [h0]; exact hD) va_S.rf (lv_sub hl [1, 0, 2, 3] rfl)
abbrev b7_init : ByteArray := prog_9_method_1_code
def y7_init : MethodName := ⟨cn_7, "<init>", "()V"⟩
theorem d7_init_0 : decode b7_init 0 = .ok (.aload_n 0, 1) := by decide +kernel
theorem d7_init_1 : decode b7_init 1 = .ok (.invokespecial 3, 3) := by decide +kernel
theorem d7_init_4 : decode b7_init 4 = .ok (.aload_n 0, 1) := by decide +kernel
theorem d7_init_5 : decode b7_init 5 = .ok (.sipush 700, 3) := by decide +kernel
theorem d7_init_8 : decode b7_init 8 = .ok (.newarray .byte, 2) := by decide +kernel
theorem d7_init_10 : decode b7_init 10 = .ok (.putfield 9, 3) := by decide +kernel
theorem d7_init_13 : decode b7_init 13 = .ok (.aload_n 0, 1) := by decide +kernel
theorem d7_init_14 : decode b7_init 14 = .ok (.iconst 0, 1) := by decide +kernel
theorem d7_init_15 : decode b7_init 15 = .ok (.putfield 15, 3) := by decide +kernel
theorem d7_init_18 : decode b7_init 18 = .ok (.return_, 1) := by decide +kernel
def cz_7 (cA : Nat → ClassId) (q : Nat) (x : Nat) : va_W := [(q, .inr (7, [.ref x, .int (0 : Int32)])), (x, .inl (cA 1, 700, .inl (fun _ => 0)))]
theorem mo_7 : Cond.methodLink cn_7 3 Lib.objectInit ∈ ce_cm := ce_cm_of (List.mem_of_getElem? (i := 128) (by decide +kernel)) (by decide +kernel)
set_option maxRecDepth 20000 in
set_option maxHeartbeats 4000000 in
theorem ci_7 (l : Launch) (D : va_G) (cA : Nat → ClassId) (aK aV : Nat → Nat) (B0 : Nat) (pre : va_W) (q : Nat) : cx_Ct l D cA B0 (ce_St aK aV B0) y7_init b7_init 1 1 12 1 700 [.ref q] (pre ++ [(q, .inr (7, [.null, .int 0]))]) (fun (_ : Nat) => True) (fun x => pre ++ cz_7 cA q x) := by
  refine cx_enter (by decide) rfl rfl (Nat.le_of_ble_eq_true rfl) (fun p e0 s m below meth c ls C hH hl => ?_)
  have hl : lv_has ls 1 [(0, .ref q)] := hl
  have hx := C.1
  have hb := C.2.1
  refine lv_aload_n hx hb d7_init_0 rfl (lv_at hl 0 rfl) ?_
  refine cx_obj C mo_7 mI_obj mC_obj hl.1 d7_init_1 (Nat.le_of_ble_eq_true rfl) (Nat.le_of_ble_eq_true rfl) ?_
  refine lv_aload_n hx hb d7_init_4 rfl (lv_at hl 0 rfl) ?_
  refine lv_sipush (v := (700 : Int32)) hx hb d7_init_5 (by decide) ?_
  refine cx_newa C hH .byte 1 (ty := .byte) rfl rfl mA_1 (fun _ => rfl) rfl (N := 700) (by decide) (by decide) (by decide) (Nat.le_of_ble_eq_true rfl) (Nat.le_of_ble_eq_true rfl) d7_init_8 (fun a8 H hH => ?_)
  have hH : cx_H D B0 s (pre ++ [(q, .inr (7, [.null, .int 0])), (a8, .inl (cA 1, 700, .inl (fun _ => 0)))]) _ _ := hH
  refine cx_put C hH (i := 0) (ci := 7) (j := 0) (N := 2) (fy := fy_7) (v := .ref a8) rfl rfl fw_7 fo_7 fn_7 (by decide) fl_7_9 rfl rfl rfl (Nat.le_of_ble_eq_true rfl) d7_init_10 (fun H locs hH => ?_)
  have hH : cx_H D B0 s (pre ++ [(q, .inr (7, [.ref a8, .int 0])), (a8, .inl (cA 1, 700, .inl (fun _ => 0)))]) _ _ := hH
  refine lv_aload_n hx hb d7_init_13 rfl (lv_at hl 0 rfl) ?_
  refine lv_iconst (v := (0 : Int32)) hx hb d7_init_14 (by decide) ?_
  refine cx_put C hH (i := 0) (ci := 7) (j := 1) (N := 2) (fy := fy_7) (v := .int (0 : Int32)) rfl rfl fw_7 fo_7 fn_7 (by decide) fl_7_15 rfl rfl rfl (Nat.le_of_ble_eq_true rfl) d7_init_15 (fun H locs hH => ?_)
  have hH : cx_H D B0 s (pre ++ [(q, .inr (7, [.ref a8, .int (0 : Int32)])), (a8, .inl (cA 1, 700, .inl (fun _ => 0)))]) _ _ := hH
  exact cx_ret C (ce_sok aK aV B0) a8 trivial hH d7_init_18
abbrev b6_init : ByteArray := prog_8_method_1_code
def y6_init : MethodName := ⟨cn_6, "<init>", "()V"⟩
theorem d6_init_0 : decode b6_init 0 = .ok (.aload_n 0, 1) := by decide +kernel
theorem d6_init_1 : decode b6_init 1 = .ok (.invokespecial 3, 3) := by decide +kernel
theorem d6_init_4 : decode b6_init 4 = .ok (.aload_n 0, 1) := by decide +kernel
theorem d6_init_5 : decode b6_init 5 = .ok (.new 9, 3) := by decide +kernel
theorem d6_init_8 : decode b6_init 8 = .ok (.dup, 1) := by decide +kernel
theorem d6_init_9 : decode b6_init 9 = .ok (.invokespecial 11, 3) := by decide +kernel
theorem d6_init_12 : decode b6_init 12 = .ok (.putfield 12, 3) := by decide +kernel
theorem d6_init_15 : decode b6_init 15 = .ok (.aload_n 0, 1) := by decide +kernel
theorem d6_init_16 : decode b6_init 16 = .ok (.iconst 0, 1) := by decide +kernel
theorem d6_init_17 : decode b6_init 17 = .ok (.putfield 18, 3) := by decide +kernel
theorem d6_init_20 : decode b6_init 20 = .ok (.aload_n 0, 1) := by decide +kernel
theorem d6_init_21 : decode b6_init 21 = .ok (.iconst 0, 1) := by decide +kernel
theorem d6_init_22 : decode b6_init 22 = .ok (.putfield 22, 3) := by decide +kernel
theorem d6_init_25 : decode b6_init 25 = .ok (.aload_n 0, 1) := by decide +kernel
theorem d6_init_26 : decode b6_init 26 = .ok (.iconst 0, 1) := by decide +kernel
theorem d6_init_27 : decode b6_init 27 = .ok (.putfield 25, 3) := by decide +kernel
theorem d6_init_30 : decode b6_init 30 = .ok (.aload_n 0, 1) := by decide +kernel
theorem d6_init_31 : decode b6_init 31 = .ok (.iconst 0, 1) := by decide +kernel
theorem d6_init_32 : decode b6_init 32 = .ok (.putfield 28, 3) := by decide +kernel
theorem d6_init_35 : decode b6_init 35 = .ok (.aload_n 0, 1) := by decide +kernel
theorem d6_init_36 : decode b6_init 36 = .ok (.iconst (-1), 1) := by decide +kernel
theorem d6_init_37 : decode b6_init 37 = .ok (.putfield 31, 3) := by decide +kernel
theorem d6_init_40 : decode b6_init 40 = .ok (.return_, 1) := by decide +kernel
def cz_6 (cA : Nat → ClassId) (q : Nat) (x : Nat × Nat) : va_W := ((q, .inr (6, [.ref x.1, .int (0 : Int32), .int (0 : Int32), .int (0 : Int32), .int (0 : Int32), .int (-1 : Int32)])) :: cz_7 cA x.1 x.2)
theorem mo_6 : Cond.methodLink cn_6 3 Lib.objectInit ∈ ce_cm := ce_cm_of (List.mem_of_getElem? (i := 122) (by decide +kernel)) (by decide +kernel)
theorem mL_6_9 : Cond.classLink cn_6 9 cn_7 ∈ ce_cm := ce_cm_of (List.mem_of_getElem? (i := 123) (by decide +kernel)) (by decide +kernel)
theorem mN_7 : Cond.instantiable cn_7 2 ∈ ce_cm := ce_cm_of (List.mem_of_getElem? (i := 124) (by decide +kernel)) (by decide +kernel)
theorem mc7_init : Cond.code y7_init b7_init 1 none ∈ ce_cm := ce_cm_of (List.mem_of_getElem? (i := 127) (by decide +kernel)) (by decide +kernel)
theorem mi7_init : Cond.instanceMethod y7_init ∈ ce_cm := ce_cm_of (List.mem_of_getElem? (i := 126) (by decide +kernel)) (by decide +kernel)
set_option maxRecDepth 20000 in
set_option maxHeartbeats 4000000 in
theorem ci_6 (l : Launch) (D : va_G) (cA : Nat → ClassId) (aK aV : Nat → Nat) (B0 : Nat) (pre : va_W) (q : Nat) : cx_Ct l D cA B0 (ce_St aK aV B0) y6_init b6_init 1 2 32 2 702 [.ref q] (pre ++ [(q, .inr (6, [.null, .int 0, .int 0, .int 0, .int 0, .int 0]))]) (fun (_ : Nat × Nat) => True) (fun x => pre ++ cz_6 cA q x) := by
  refine cx_enter (by decide) rfl rfl (Nat.le_of_ble_eq_true rfl) (fun p e0 s m below meth c ls C hH hl => ?_)
  have hl : lv_has ls 1 [(0, .ref q)] := hl
  have hx := C.1
  have hb := C.2.1
  refine lv_aload_n hx hb d6_init_0 rfl (lv_at hl 0 rfl) ?_
  refine cx_obj C mo_6 mI_obj mC_obj hl.1 d6_init_1 (Nat.le_of_ble_eq_true rfl) (Nat.le_of_ble_eq_true rfl) ?_
  refine lv_aload_n hx hb d6_init_4 rfl (lv_at hl 0 rfl) ?_
  refine cx_new C hH (ci := 7) (fs := [.null, .int 0]) rfl fw_7 fo_7 mL_6_9 mN_7 mI_7 (by decide +kernel) (Nat.le_of_ble_eq_true rfl) (Nat.le_of_ble_eq_true rfl) d6_init_5 (fun a5 H hH => ?_)
  refine lv_dup hx hb d6_init_8 rfl ?_
  refine cx_callIN (rest := [.ref a5, .ref q]) C (ce_sok aK aV B0) hH (ci_7 l D cA aK aV B0 (pre ++ [(q, .inr (6, [.null, .int 0, .int 0, .int 0, .int 0, .int 0]))]) a5) rfl mc7_init (ce_nwW C.2.2.2.2.2.2.2.2.2.1 1 rfl) mi7_init mI_7 (by decide) ⟨Nat.le_of_ble_eq_true rfl, Nat.le_of_ble_eq_true rfl⟩ ⟨Nat.le_of_ble_eq_true rfl, Nat.le_of_ble_eq_true rfl⟩ hl.1 (Nat.le_of_ble_eq_true rfl) d6_init_9 (fun x9 H locs px9 hH => ?_)
  rw [List.append_assoc] at hH
  have hH : cx_H D B0 s (pre ++ ((q, .inr (6, [.null, .int 0, .int 0, .int 0, .int 0, .int 0])) :: cz_7 cA a5 x9)) H locs := hH
  refine cx_put C hH (i := 0) (ci := 6) (j := 0) (N := 6) (fy := fy_6) (v := .ref a5) rfl rfl fw_6 fo_6 fn_6 (by decide) fl_6_12 rfl rfl rfl (Nat.le_of_ble_eq_true rfl) d6_init_12 (fun H locs hH => ?_)
  have hH : cx_H D B0 s (pre ++ ((q, .inr (6, [.ref a5, .int 0, .int 0, .int 0, .int 0, .int 0])) :: cz_7 cA a5 x9)) _ _ := hH
  refine lv_aload_n hx hb d6_init_15 rfl (lv_at hl 0 rfl) ?_
  refine lv_iconst (v := (0 : Int32)) hx hb d6_init_16 (by decide) ?_
  refine cx_put C hH (i := 0) (ci := 6) (j := 1) (N := 6) (fy := fy_6) (v := .int (0 : Int32)) rfl rfl fw_6 fo_6 fn_6 (by decide) fl_6_18 rfl rfl rfl (Nat.le_of_ble_eq_true rfl) d6_init_17 (fun H locs hH => ?_)
  have hH : cx_H D B0 s (pre ++ ((q, .inr (6, [.ref a5, .int (0 : Int32), .int 0, .int 0, .int 0, .int 0])) :: cz_7 cA a5 x9)) _ _ := hH
  refine lv_aload_n hx hb d6_init_20 rfl (lv_at hl 0 rfl) ?_
  refine lv_iconst (v := (0 : Int32)) hx hb d6_init_21 (by decide) ?_
  refine cx_put C hH (i := 0) (ci := 6) (j := 2) (N := 6) (fy := fy_6) (v := .int (0 : Int32)) rfl rfl fw_6 fo_6 fn_6 (by decide) fl_6_22 rfl rfl rfl (Nat.le_of_ble_eq_true rfl) d6_init_22 (fun H locs hH => ?_)
  have hH : cx_H D B0 s (pre ++ ((q, .inr (6, [.ref a5, .int (0 : Int32), .int (0 : Int32), .int 0, .int 0, .int 0])) :: cz_7 cA a5 x9)) _ _ := hH
  refine lv_aload_n hx hb d6_init_25 rfl (lv_at hl 0 rfl) ?_
  refine lv_iconst (v := (0 : Int32)) hx hb d6_init_26 (by decide) ?_
  refine cx_put C hH (i := 0) (ci := 6) (j := 3) (N := 6) (fy := fy_6) (v := .int (0 : Int32)) rfl rfl fw_6 fo_6 fn_6 (by decide) fl_6_25 rfl rfl rfl (Nat.le_of_ble_eq_true rfl) d6_init_27 (fun H locs hH => ?_)
  have hH : cx_H D B0 s (pre ++ ((q, .inr (6, [.ref a5, .int (0 : Int32), .int (0 : Int32), .int (0 : Int32), .int 0, .int 0])) :: cz_7 cA a5 x9)) _ _ := hH
  refine lv_aload_n hx hb d6_init_30 rfl (lv_at hl 0 rfl) ?_
  refine lv_iconst (v := (0 : Int32)) hx hb d6_init_31 (by decide) ?_
  refine cx_put C hH (i := 0) (ci := 6) (j := 4) (N := 6) (fy := fy_6) (v := .int (0 : Int32)) rfl rfl fw_6 fo_6 fn_6 (by decide) fl_6_28 rfl rfl rfl (Nat.le_of_ble_eq_true rfl) d6_init_32 (fun H locs hH => ?_)
  have hH : cx_H D B0 s (pre ++ ((q, .inr (6, [.ref a5, .int (0 : Int32), .int (0 : Int32), .int (0 : Int32), .int (0 : Int32), .int 0])) :: cz_7 cA a5 x9)) _ _ := hH
  refine lv_aload_n hx hb d6_init_35 rfl (lv_at hl 0 rfl) ?_
  refine lv_iconst (v := (-1 : Int32)) hx hb d6_init_36 (by decide) ?_
  refine cx_put C hH (i := 0) (ci := 6) (j := 5) (N := 6) (fy := fy_6) (v := .int (-1 : Int32)) rfl rfl fw_6 fo_6 fn_6 (by decide) fl_6_31 rfl rfl rfl (Nat.le_of_ble_eq_true rfl) d6_init_37 (fun H locs hH => ?_)
  have hH : cx_H D B0 s (pre ++ ((q, .inr (6, [.ref a5, .int (0 : Int32), .int (0 : Int32), .int (0 : Int32), .int (0 : Int32), .int (-1 : Int32)])) :: cz_7 cA a5 x9)) _ _ := hH
  exact cx_ret C (ce_sok aK aV B0) (a5, x9) trivial hH d6_init_40
abbrev b8_init : ByteArray := prog_10_method_1_code
def y8_init : MethodName := ⟨cn_8, "<init>", "()V"⟩
theorem d8_init_0 : decode b8_init 0 = .ok (.aload_n 0, 1) := by decide +kernel
theorem d8_init_1 : decode b8_init 1 = .ok (.invokespecial 3, 3) := by decide +kernel
theorem d8_init_4 : decode b8_init 4 = .ok (.aload_n 0, 1) := by decide +kernel
theorem d8_init_5 : decode b8_init 5 = .ok (.bipush 10, 2) := by decide +kernel
theorem d8_init_7 : decode b8_init 7 = .ok (.newarray .int, 2) := by decide +kernel
theorem d8_init_9 : decode b8_init 9 = .ok (.putfield 9, 3) := by decide +kernel
theorem d8_init_12 : decode b8_init 12 = .ok (.aload_n 0, 1) := by decide +kernel
theorem d8_init_13 : decode b8_init 13 = .ok (.bipush 10, 2) := by decide +kernel
theorem d8_init_15 : decode b8_init 15 = .ok (.newarray .int, 2) := by decide +kernel
theorem d8_init_17 : decode b8_init 17 = .ok (.putfield 15, 3) := by decide +kernel
theorem d8_init_20 : decode b8_init 20 = .ok (.return_, 1) := by decide +kernel
def cz_8 (cA : Nat → ClassId) (q : Nat) (x : Nat × Nat) : va_W := [(q, .inr (8, [.ref x.1, .ref x.2])), (x.1, .inl (cA 0, 10, .inl (fun _ => 0))), (x.2, .inl (cA 0, 10, .inl (fun _ => 0)))]
theorem mo_8 : Cond.methodLink cn_8 3 Lib.objectInit ∈ ce_cm := ce_cm_of (List.mem_of_getElem? (i := 174) (by decide +kernel)) (by decide +kernel)
set_option maxRecDepth 20000 in
set_option maxHeartbeats 4000000 in
theorem ci_8 (l : Launch) (D : va_G) (cA : Nat → ClassId) (aK aV : Nat → Nat) (B0 : Nat) (pre : va_W) (q : Nat) : cx_Ct l D cA B0 (ce_St aK aV B0) y8_init b8_init 1 1 12 2 20 [.ref q] (pre ++ [(q, .inr (8, [.null, .null]))]) (fun (_ : Nat × Nat) => True) (fun x => pre ++ cz_8 cA q x) := by
  refine cx_enter (by decide) rfl rfl (Nat.le_of_ble_eq_true rfl) (fun p e0 s m below meth c ls C hH hl => ?_)
  have hl : lv_has ls 1 [(0, .ref q)] := hl
  have hx := C.1
  have hb := C.2.1
  refine lv_aload_n hx hb d8_init_0 rfl (lv_at hl 0 rfl) ?_
  refine cx_obj C mo_8 mI_obj mC_obj hl.1 d8_init_1 (Nat.le_of_ble_eq_true rfl) (Nat.le_of_ble_eq_true rfl) ?_
  refine lv_aload_n hx hb d8_init_4 rfl (lv_at hl 0 rfl) ?_
  refine lv_bipush (v := (10 : Int32)) hx hb d8_init_5 (by decide) ?_
  refine cx_newa C hH .int 0 (ty := .int) rfl rfl mA_0 (fun _ => rfl) rfl (N := 10) (by decide) (by decide) (by decide) (Nat.le_of_ble_eq_true rfl) (Nat.le_of_ble_eq_true rfl) d8_init_7 (fun a7 H hH => ?_)
  have hH : cx_H D B0 s (pre ++ [(q, .inr (8, [.null, .null])), (a7, .inl (cA 0, 10, .inl (fun _ => 0)))]) _ _ := hH
  refine cx_put C hH (i := 0) (ci := 8) (j := 0) (N := 2) (fy := fy_8) (v := .ref a7) rfl rfl fw_8 fo_8 fn_8 (by decide) fl_8_9 rfl rfl rfl (Nat.le_of_ble_eq_true rfl) d8_init_9 (fun H locs hH => ?_)
  have hH : cx_H D B0 s (pre ++ [(q, .inr (8, [.ref a7, .null])), (a7, .inl (cA 0, 10, .inl (fun _ => 0)))]) _ _ := hH
  refine lv_aload_n hx hb d8_init_12 rfl (lv_at hl 0 rfl) ?_
  refine lv_bipush (v := (10 : Int32)) hx hb d8_init_13 (by decide) ?_
  refine cx_newa C hH .int 0 (ty := .int) rfl rfl mA_0 (fun _ => rfl) rfl (N := 10) (by decide) (by decide) (by decide) (Nat.le_of_ble_eq_true rfl) (Nat.le_of_ble_eq_true rfl) d8_init_15 (fun a15 H hH => ?_)
  have hH : cx_H D B0 s (pre ++ [(q, .inr (8, [.ref a7, .null])), (a7, .inl (cA 0, 10, .inl (fun _ => 0))), (a15, .inl (cA 0, 10, .inl (fun _ => 0)))]) _ _ := hH
  refine cx_put C hH (i := 0) (ci := 8) (j := 1) (N := 2) (fy := fy_8) (v := .ref a15) rfl rfl fw_8 fo_8 fn_8 (by decide) fl_8_15 rfl rfl rfl (Nat.le_of_ble_eq_true rfl) d8_init_17 (fun H locs hH => ?_)
  have hH : cx_H D B0 s (pre ++ [(q, .inr (8, [.ref a7, .ref a15])), (a7, .inl (cA 0, 10, .inl (fun _ => 0))), (a15, .inl (cA 0, 10, .inl (fun _ => 0)))]) _ _ := hH
  exact cx_ret C (ce_sok aK aV B0) (a7, a15) trivial hH d8_init_20
abbrev b5_init : ByteArray := prog_7_method_1_code
def y5_init : MethodName := ⟨cn_5, "<init>", "()V"⟩
theorem d5_init_0 : decode b5_init 0 = .ok (.aload_n 0, 1) := by decide +kernel
theorem d5_init_1 : decode b5_init 1 = .ok (.invokespecial 3, 3) := by decide +kernel
theorem d5_init_4 : decode b5_init 4 = .ok (.aload_n 0, 1) := by decide +kernel
theorem d5_init_5 : decode b5_init 5 = .ok (.iconst 0, 1) := by decide +kernel
theorem d5_init_6 : decode b5_init 6 = .ok (.putfield 9, 3) := by decide +kernel
theorem d5_init_9 : decode b5_init 9 = .ok (.aload_n 0, 1) := by decide +kernel
theorem d5_init_10 : decode b5_init 10 = .ok (.iconst 0, 1) := by decide +kernel
theorem d5_init_11 : decode b5_init 11 = .ok (.putfield 15, 3) := by decide +kernel
theorem d5_init_14 : decode b5_init 14 = .ok (.aload_n 0, 1) := by decide +kernel
theorem d5_init_15 : decode b5_init 15 = .ok (.iconst 0, 1) := by decide +kernel
theorem d5_init_16 : decode b5_init 16 = .ok (.putfield 18, 3) := by decide +kernel
theorem d5_init_19 : decode b5_init 19 = .ok (.aload_n 0, 1) := by decide +kernel
theorem d5_init_20 : decode b5_init 20 = .ok (.iconst 0, 1) := by decide +kernel
theorem d5_init_21 : decode b5_init 21 = .ok (.putfield 21, 3) := by decide +kernel
theorem d5_init_24 : decode b5_init 24 = .ok (.aload_n 0, 1) := by decide +kernel
theorem d5_init_25 : decode b5_init 25 = .ok (.iconst 0, 1) := by decide +kernel
theorem d5_init_26 : decode b5_init 26 = .ok (.putfield 24, 3) := by decide +kernel
theorem d5_init_29 : decode b5_init 29 = .ok (.aload_n 0, 1) := by decide +kernel
theorem d5_init_30 : decode b5_init 30 = .ok (.bipush 10, 2) := by decide +kernel
theorem d5_init_32 : decode b5_init 32 = .ok (.newarray .int, 2) := by decide +kernel
theorem d5_init_34 : decode b5_init 34 = .ok (.putfield 27, 3) := by decide +kernel
theorem d5_init_37 : decode b5_init 37 = .ok (.aload_n 0, 1) := by decide +kernel
theorem d5_init_38 : decode b5_init 38 = .ok (.bipush 10, 2) := by decide +kernel
theorem d5_init_40 : decode b5_init 40 = .ok (.newarray .boolean, 2) := by decide +kernel
theorem d5_init_42 : decode b5_init 42 = .ok (.putfield 31, 3) := by decide +kernel
theorem d5_init_45 : decode b5_init 45 = .ok (.aload_n 0, 1) := by decide +kernel
theorem d5_init_46 : decode b5_init 46 = .ok (.bipush 10, 2) := by decide +kernel
theorem d5_init_48 : decode b5_init 48 = .ok (.newarray .int, 2) := by decide +kernel
theorem d5_init_50 : decode b5_init 50 = .ok (.putfield 35, 3) := by decide +kernel
theorem d5_init_53 : decode b5_init 53 = .ok (.aload_n 0, 1) := by decide +kernel
theorem d5_init_54 : decode b5_init 54 = .ok (.bipush 10, 2) := by decide +kernel
theorem d5_init_56 : decode b5_init 56 = .ok (.newarray .int, 2) := by decide +kernel
theorem d5_init_58 : decode b5_init 58 = .ok (.putfield 38, 3) := by decide +kernel
theorem d5_init_61 : decode b5_init 61 = .ok (.aload_n 0, 1) := by decide +kernel
theorem d5_init_62 : decode b5_init 62 = .ok (.bipush 40, 2) := by decide +kernel
theorem d5_init_64 : decode b5_init 64 = .ok (.newarray .int, 2) := by decide +kernel
theorem d5_init_66 : decode b5_init 66 = .ok (.putfield 41, 3) := by decide +kernel
theorem d5_init_69 : decode b5_init 69 = .ok (.aload_n 0, 1) := by decide +kernel
theorem d5_init_70 : decode b5_init 70 = .ok (.bipush 40, 2) := by decide +kernel
theorem d5_init_72 : decode b5_init 72 = .ok (.newarray .int, 2) := by decide +kernel
theorem d5_init_74 : decode b5_init 74 = .ok (.putfield 44, 3) := by decide +kernel
theorem d5_init_77 : decode b5_init 77 = .ok (.aload_n 0, 1) := by decide +kernel
theorem d5_init_78 : decode b5_init 78 = .ok (.getfield 41, 3) := by decide +kernel
theorem d5_init_81 : decode b5_init 81 = .ok (.iconst (-1), 1) := by decide +kernel
theorem d5_init_82 : decode b5_init 82 = .ok (.invokestatic 47, 3) := by decide +kernel
theorem d5_init_85 : decode b5_init 85 = .ok (.return_, 1) := by decide +kernel
def cz_5 (cA : Nat → ClassId) (q : Nat) (x : Nat × Nat × Nat × Nat × Nat × Nat × (Nat → Int32)) : va_W := [(q, .inr (5, [.int (0 : Int32), .int (0 : Int32), .int (0 : Int32), .int (0 : Int32), .int (0 : Int32), .ref x.1, .ref x.2.1, .ref x.2.2.1, .ref x.2.2.2.1, .ref x.2.2.2.2.1, .ref x.2.2.2.2.2.1])), (x.1, .inl (cA 0, 10, .inl (fun _ => 0))), (x.2.1, .inl (cA 2, 10, .inl (fun _ => 0))), (x.2.2.1, .inl (cA 0, 10, .inl (fun _ => 0))), (x.2.2.2.1, .inl (cA 0, 10, .inl (fun _ => 0))), (x.2.2.2.2.1, .inl (cA 0, 40, .inl x.2.2.2.2.2.2)), (x.2.2.2.2.2.1, .inl (cA 0, 40, .inl (fun _ => 0)))]
def cp_5 (x : Nat × Nat × Nat × Nat × Nat × Nat × (Nat → Int32)) : Prop := (∀ j, j < 40 → x.2.2.2.2.2.2 j = (-1 : Int32))
theorem mo_5 : Cond.methodLink cn_5 3 Lib.objectInit ∈ ce_cm := ce_cm_of (List.mem_of_getElem? (i := 188) (by decide +kernel)) (by decide +kernel)
set_option maxRecDepth 20000 in
set_option maxHeartbeats 4000000 in
theorem ci_5 (l : Launch) (D : va_G) (cA : Nat → ClassId) (aK aV : Nat → Nat) (B0 : Nat) (pre : va_W) (q : Nat) : cx_Ct l D cA B0 (ce_St aK aV B0) y5_init b5_init 1 1 40 6 120 [.ref q] (pre ++ [(q, .inr (5, [.int 0, .int 0, .int 0, .int 0, .int 0, .null, .null, .null, .null, .null, .null]))]) (fun x => cp_5 x) (fun x => pre ++ cz_5 cA q x) := by
  refine cx_enter (by decide) rfl rfl (Nat.le_of_ble_eq_true rfl) (fun p e0 s m below meth c ls C hH hl => ?_)
  have hl : lv_has ls 1 [(0, .ref q)] := hl
  have hx := C.1
  have hb := C.2.1
  refine lv_aload_n hx hb d5_init_0 rfl (lv_at hl 0 rfl) ?_
  refine cx_obj C mo_5 mI_obj mC_obj hl.1 d5_init_1 (Nat.le_of_ble_eq_true rfl) (Nat.le_of_ble_eq_true rfl) ?_
  refine lv_aload_n hx hb d5_init_4 rfl (lv_at hl 0 rfl) ?_
  refine lv_iconst (v := (0 : Int32)) hx hb d5_init_5 (by decide) ?_
  refine cx_put C hH (i := 0) (ci := 5) (j := 0) (N := 11) (fy := fy_5) (v := .int (0 : Int32)) rfl rfl fw_5 fo_5 fn_5 (by decide) fl_5_9 rfl rfl rfl (Nat.le_of_ble_eq_true rfl) d5_init_6 (fun H locs hH => ?_)
  have hH : cx_H D B0 s (pre ++ [(q, .inr (5, [.int (0 : Int32), .int 0, .int 0, .int 0, .int 0, .null, .null, .null, .null, .null, .null]))]) _ _ := hH
  refine lv_aload_n hx hb d5_init_9 rfl (lv_at hl 0 rfl) ?_
  refine lv_iconst (v := (0 : Int32)) hx hb d5_init_10 (by decide) ?_
  refine cx_put C hH (i := 0) (ci := 5) (j := 1) (N := 11) (fy := fy_5) (v := .int (0 : Int32)) rfl rfl fw_5 fo_5 fn_5 (by decide) fl_5_15 rfl rfl rfl (Nat.le_of_ble_eq_true rfl) d5_init_11 (fun H locs hH => ?_)
  have hH : cx_H D B0 s (pre ++ [(q, .inr (5, [.int (0 : Int32), .int (0 : Int32), .int 0, .int 0, .int 0, .null, .null, .null, .null, .null, .null]))]) _ _ := hH
  refine lv_aload_n hx hb d5_init_14 rfl (lv_at hl 0 rfl) ?_
  refine lv_iconst (v := (0 : Int32)) hx hb d5_init_15 (by decide) ?_
  refine cx_put C hH (i := 0) (ci := 5) (j := 2) (N := 11) (fy := fy_5) (v := .int (0 : Int32)) rfl rfl fw_5 fo_5 fn_5 (by decide) fl_5_18 rfl rfl rfl (Nat.le_of_ble_eq_true rfl) d5_init_16 (fun H locs hH => ?_)
  have hH : cx_H D B0 s (pre ++ [(q, .inr (5, [.int (0 : Int32), .int (0 : Int32), .int (0 : Int32), .int 0, .int 0, .null, .null, .null, .null, .null, .null]))]) _ _ := hH
  refine lv_aload_n hx hb d5_init_19 rfl (lv_at hl 0 rfl) ?_
  refine lv_iconst (v := (0 : Int32)) hx hb d5_init_20 (by decide) ?_
  refine cx_put C hH (i := 0) (ci := 5) (j := 3) (N := 11) (fy := fy_5) (v := .int (0 : Int32)) rfl rfl fw_5 fo_5 fn_5 (by decide) fl_5_21 rfl rfl rfl (Nat.le_of_ble_eq_true rfl) d5_init_21 (fun H locs hH => ?_)
  have hH : cx_H D B0 s (pre ++ [(q, .inr (5, [.int (0 : Int32), .int (0 : Int32), .int (0 : Int32), .int (0 : Int32), .int 0, .null, .null, .null, .null, .null, .null]))]) _ _ := hH
  refine lv_aload_n hx hb d5_init_24 rfl (lv_at hl 0 rfl) ?_
  refine lv_iconst (v := (0 : Int32)) hx hb d5_init_25 (by decide) ?_
  refine cx_put C hH (i := 0) (ci := 5) (j := 4) (N := 11) (fy := fy_5) (v := .int (0 : Int32)) rfl rfl fw_5 fo_5 fn_5 (by decide) fl_5_24 rfl rfl rfl (Nat.le_of_ble_eq_true rfl) d5_init_26 (fun H locs hH => ?_)
  have hH : cx_H D B0 s (pre ++ [(q, .inr (5, [.int (0 : Int32), .int (0 : Int32), .int (0 : Int32), .int (0 : Int32), .int (0 : Int32), .null, .null, .null, .null, .null, .null]))]) _ _ := hH
  refine lv_aload_n hx hb d5_init_29 rfl (lv_at hl 0 rfl) ?_
  refine lv_bipush (v := (10 : Int32)) hx hb d5_init_30 (by decide) ?_
  refine cx_newa C hH .int 0 (ty := .int) rfl rfl mA_0 (fun _ => rfl) rfl (N := 10) (by decide) (by decide) (by decide) (Nat.le_of_ble_eq_true rfl) (Nat.le_of_ble_eq_true rfl) d5_init_32 (fun a32 H hH => ?_)
  have hH : cx_H D B0 s (pre ++ [(q, .inr (5, [.int (0 : Int32), .int (0 : Int32), .int (0 : Int32), .int (0 : Int32), .int (0 : Int32), .null, .null, .null, .null, .null, .null])), (a32, .inl (cA 0, 10, .inl (fun _ => 0)))]) _ _ := hH
  refine cx_put C hH (i := 0) (ci := 5) (j := 5) (N := 11) (fy := fy_5) (v := .ref a32) rfl rfl fw_5 fo_5 fn_5 (by decide) fl_5_27 rfl rfl rfl (Nat.le_of_ble_eq_true rfl) d5_init_34 (fun H locs hH => ?_)
  have hH : cx_H D B0 s (pre ++ [(q, .inr (5, [.int (0 : Int32), .int (0 : Int32), .int (0 : Int32), .int (0 : Int32), .int (0 : Int32), .ref a32, .null, .null, .null, .null, .null])), (a32, .inl (cA 0, 10, .inl (fun _ => 0)))]) _ _ := hH
  refine lv_aload_n hx hb d5_init_37 rfl (lv_at hl 0 rfl) ?_
  refine lv_bipush (v := (10 : Int32)) hx hb d5_init_38 (by decide) ?_
  refine cx_newa C hH .boolean 2 (ty := .boolean) rfl rfl mA_2 (fun _ => rfl) rfl (N := 10) (by decide) (by decide) (by decide) (Nat.le_of_ble_eq_true rfl) (Nat.le_of_ble_eq_true rfl) d5_init_40 (fun a40 H hH => ?_)
  have hH : cx_H D B0 s (pre ++ [(q, .inr (5, [.int (0 : Int32), .int (0 : Int32), .int (0 : Int32), .int (0 : Int32), .int (0 : Int32), .ref a32, .null, .null, .null, .null, .null])), (a32, .inl (cA 0, 10, .inl (fun _ => 0))), (a40, .inl (cA 2, 10, .inl (fun _ => 0)))]) _ _ := hH
  refine cx_put C hH (i := 0) (ci := 5) (j := 6) (N := 11) (fy := fy_5) (v := .ref a40) rfl rfl fw_5 fo_5 fn_5 (by decide) fl_5_31 rfl rfl rfl (Nat.le_of_ble_eq_true rfl) d5_init_42 (fun H locs hH => ?_)
  have hH : cx_H D B0 s (pre ++ [(q, .inr (5, [.int (0 : Int32), .int (0 : Int32), .int (0 : Int32), .int (0 : Int32), .int (0 : Int32), .ref a32, .ref a40, .null, .null, .null, .null])), (a32, .inl (cA 0, 10, .inl (fun _ => 0))), (a40, .inl (cA 2, 10, .inl (fun _ => 0)))]) _ _ := hH
  refine lv_aload_n hx hb d5_init_45 rfl (lv_at hl 0 rfl) ?_
  refine lv_bipush (v := (10 : Int32)) hx hb d5_init_46 (by decide) ?_
  refine cx_newa C hH .int 0 (ty := .int) rfl rfl mA_0 (fun _ => rfl) rfl (N := 10) (by decide) (by decide) (by decide) (Nat.le_of_ble_eq_true rfl) (Nat.le_of_ble_eq_true rfl) d5_init_48 (fun a48 H hH => ?_)
  have hH : cx_H D B0 s (pre ++ [(q, .inr (5, [.int (0 : Int32), .int (0 : Int32), .int (0 : Int32), .int (0 : Int32), .int (0 : Int32), .ref a32, .ref a40, .null, .null, .null, .null])), (a32, .inl (cA 0, 10, .inl (fun _ => 0))), (a40, .inl (cA 2, 10, .inl (fun _ => 0))), (a48, .inl (cA 0, 10, .inl (fun _ => 0)))]) _ _ := hH
  refine cx_put C hH (i := 0) (ci := 5) (j := 7) (N := 11) (fy := fy_5) (v := .ref a48) rfl rfl fw_5 fo_5 fn_5 (by decide) fl_5_35 rfl rfl rfl (Nat.le_of_ble_eq_true rfl) d5_init_50 (fun H locs hH => ?_)
  have hH : cx_H D B0 s (pre ++ [(q, .inr (5, [.int (0 : Int32), .int (0 : Int32), .int (0 : Int32), .int (0 : Int32), .int (0 : Int32), .ref a32, .ref a40, .ref a48, .null, .null, .null])), (a32, .inl (cA 0, 10, .inl (fun _ => 0))), (a40, .inl (cA 2, 10, .inl (fun _ => 0))), (a48, .inl (cA 0, 10, .inl (fun _ => 0)))]) _ _ := hH
  refine lv_aload_n hx hb d5_init_53 rfl (lv_at hl 0 rfl) ?_
  refine lv_bipush (v := (10 : Int32)) hx hb d5_init_54 (by decide) ?_
  refine cx_newa C hH .int 0 (ty := .int) rfl rfl mA_0 (fun _ => rfl) rfl (N := 10) (by decide) (by decide) (by decide) (Nat.le_of_ble_eq_true rfl) (Nat.le_of_ble_eq_true rfl) d5_init_56 (fun a56 H hH => ?_)
  have hH : cx_H D B0 s (pre ++ [(q, .inr (5, [.int (0 : Int32), .int (0 : Int32), .int (0 : Int32), .int (0 : Int32), .int (0 : Int32), .ref a32, .ref a40, .ref a48, .null, .null, .null])), (a32, .inl (cA 0, 10, .inl (fun _ => 0))), (a40, .inl (cA 2, 10, .inl (fun _ => 0))), (a48, .inl (cA 0, 10, .inl (fun _ => 0))), (a56, .inl (cA 0, 10, .inl (fun _ => 0)))]) _ _ := hH
  refine cx_put C hH (i := 0) (ci := 5) (j := 8) (N := 11) (fy := fy_5) (v := .ref a56) rfl rfl fw_5 fo_5 fn_5 (by decide) fl_5_38 rfl rfl rfl (Nat.le_of_ble_eq_true rfl) d5_init_58 (fun H locs hH => ?_)
  have hH : cx_H D B0 s (pre ++ [(q, .inr (5, [.int (0 : Int32), .int (0 : Int32), .int (0 : Int32), .int (0 : Int32), .int (0 : Int32), .ref a32, .ref a40, .ref a48, .ref a56, .null, .null])), (a32, .inl (cA 0, 10, .inl (fun _ => 0))), (a40, .inl (cA 2, 10, .inl (fun _ => 0))), (a48, .inl (cA 0, 10, .inl (fun _ => 0))), (a56, .inl (cA 0, 10, .inl (fun _ => 0)))]) _ _ := hH
  refine lv_aload_n hx hb d5_init_61 rfl (lv_at hl 0 rfl) ?_
  refine lv_bipush (v := (40 : Int32)) hx hb d5_init_62 (by decide) ?_
  refine cx_newa C hH .int 0 (ty := .int) rfl rfl mA_0 (fun _ => rfl) rfl (N := 40) (by decide) (by decide) (by decide) (Nat.le_of_ble_eq_true rfl) (Nat.le_of_ble_eq_true rfl) d5_init_64 (fun a64 H hH => ?_)
  have hH : cx_H D B0 s (pre ++ [(q, .inr (5, [.int (0 : Int32), .int (0 : Int32), .int (0 : Int32), .int (0 : Int32), .int (0 : Int32), .ref a32, .ref a40, .ref a48, .ref a56, .null, .null])), (a32, .inl (cA 0, 10, .inl (fun _ => 0))), (a40, .inl (cA 2, 10, .inl (fun _ => 0))), (a48, .inl (cA 0, 10, .inl (fun _ => 0))), (a56, .inl (cA 0, 10, .inl (fun _ => 0))), (a64, .inl (cA 0, 40, .inl (fun _ => 0)))]) _ _ := hH
  refine cx_put C hH (i := 0) (ci := 5) (j := 9) (N := 11) (fy := fy_5) (v := .ref a64) rfl rfl fw_5 fo_5 fn_5 (by decide) fl_5_41 rfl rfl rfl (Nat.le_of_ble_eq_true rfl) d5_init_66 (fun H locs hH => ?_)
  have hH : cx_H D B0 s (pre ++ [(q, .inr (5, [.int (0 : Int32), .int (0 : Int32), .int (0 : Int32), .int (0 : Int32), .int (0 : Int32), .ref a32, .ref a40, .ref a48, .ref a56, .ref a64, .null])), (a32, .inl (cA 0, 10, .inl (fun _ => 0))), (a40, .inl (cA 2, 10, .inl (fun _ => 0))), (a48, .inl (cA 0, 10, .inl (fun _ => 0))), (a56, .inl (cA 0, 10, .inl (fun _ => 0))), (a64, .inl (cA 0, 40, .inl (fun _ => 0)))]) _ _ := hH
  refine lv_aload_n hx hb d5_init_69 rfl (lv_at hl 0 rfl) ?_
  refine lv_bipush (v := (40 : Int32)) hx hb d5_init_70 (by decide) ?_
  refine cx_newa C hH .int 0 (ty := .int) rfl rfl mA_0 (fun _ => rfl) rfl (N := 40) (by decide) (by decide) (by decide) (Nat.le_of_ble_eq_true rfl) (Nat.le_of_ble_eq_true rfl) d5_init_72 (fun a72 H hH => ?_)
  have hH : cx_H D B0 s (pre ++ [(q, .inr (5, [.int (0 : Int32), .int (0 : Int32), .int (0 : Int32), .int (0 : Int32), .int (0 : Int32), .ref a32, .ref a40, .ref a48, .ref a56, .ref a64, .null])), (a32, .inl (cA 0, 10, .inl (fun _ => 0))), (a40, .inl (cA 2, 10, .inl (fun _ => 0))), (a48, .inl (cA 0, 10, .inl (fun _ => 0))), (a56, .inl (cA 0, 10, .inl (fun _ => 0))), (a64, .inl (cA 0, 40, .inl (fun _ => 0))), (a72, .inl (cA 0, 40, .inl (fun _ => 0)))]) _ _ := hH
  refine cx_put C hH (i := 0) (ci := 5) (j := 10) (N := 11) (fy := fy_5) (v := .ref a72) rfl rfl fw_5 fo_5 fn_5 (by decide) fl_5_44 rfl rfl rfl (Nat.le_of_ble_eq_true rfl) d5_init_74 (fun H locs hH => ?_)
  have hH : cx_H D B0 s (pre ++ [(q, .inr (5, [.int (0 : Int32), .int (0 : Int32), .int (0 : Int32), .int (0 : Int32), .int (0 : Int32), .ref a32, .ref a40, .ref a48, .ref a56, .ref a64, .ref a72])), (a32, .inl (cA 0, 10, .inl (fun _ => 0))), (a40, .inl (cA 2, 10, .inl (fun _ => 0))), (a48, .inl (cA 0, 10, .inl (fun _ => 0))), (a56, .inl (cA 0, 10, .inl (fun _ => 0))), (a64, .inl (cA 0, 40, .inl (fun _ => 0))), (a72, .inl (cA 0, 40, .inl (fun _ => 0)))]) _ _ := hH
  refine lv_aload_n hx hb d5_init_77 rfl (lv_at hl 0 rfl) ?_
  refine cx_get C hH (i := 0) (ci := 5) (j := 9) (N := 11) (v := .ref a64) rfl rfl fw_5 (by decide) fl_5_41 rfl d5_init_78 ?_
  refine lv_iconst (v := (-1 : Int32)) hx hb d5_init_81 (by decide) ?_
  refine cx_callS (As := [.ref a64, .int (-1 : Int32)]) (rest := []) C (ce_sok aK aV B0) hH (cx_fill l D cA aK aV B0 pre [(q, .inr (5, [.int (0 : Int32), .int (0 : Int32), .int (0 : Int32), .int (0 : Int32), .int (0 : Int32), .ref a32, .ref a40, .ref a48, .ref a56, .ref a64, .ref a72])), (a32, .inl (cA 0, 10, .inl (fun _ => 0))), (a40, .inl (cA 2, 10, .inl (fun _ => 0))), (a48, .inl (cA 0, 10, .inl (fun _ => 0))), (a56, .inl (cA 0, 10, .inl (fun _ => 0))), (a64, .inl (cA 0, 40, .inl (fun _ => 0))), (a72, .inl (cA 0, 40, .inl (fun _ => 0)))] 5 a64 40 (fun _ => 0) (-1 : Int32) rfl (by decide)) mc7_fill_53178 ml_5_47 mt7_fill_53178 mI_A (n := 2) (by decide) rfl ⟨Nat.le_of_ble_eq_true rfl, Nat.le_of_ble_eq_true rfl⟩ ⟨Nat.le_of_ble_eq_true rfl, Nat.le_of_ble_eq_true rfl⟩ hl.1 rfl (Nat.le_of_ble_eq_true rfl) d5_init_82 (fun g82 H locs px82 hH => ?_)
  have hH : cx_H D B0 s (pre ++ [(q, .inr (5, [.int (0 : Int32), .int (0 : Int32), .int (0 : Int32), .int (0 : Int32), .int (0 : Int32), .ref a32, .ref a40, .ref a48, .ref a56, .ref a64, .ref a72])), (a32, .inl (cA 0, 10, .inl (fun _ => 0))), (a40, .inl (cA 2, 10, .inl (fun _ => 0))), (a48, .inl (cA 0, 10, .inl (fun _ => 0))), (a56, .inl (cA 0, 10, .inl (fun _ => 0))), (a64, .inl (cA 0, 40, .inl g82)), (a72, .inl (cA 0, 40, .inl (fun _ => 0)))]) _ _ := hH
  exact cx_ret C (ce_sok aK aV B0) (a32, a40, a48, a56, a64, a72, g82) px82 hH d5_init_85
abbrev b9_init : ByteArray := prog_11_method_1_code
def y9_init : MethodName := ⟨cn_9, "<init>", "()V"⟩
theorem d9_init_0 : decode b9_init 0 = .ok (.aload_n 0, 1) := by decide +kernel
theorem d9_init_1 : decode b9_init 1 = .ok (.invokespecial 3, 3) := by decide +kernel
theorem d9_init_4 : decode b9_init 4 = .ok (.aload_n 0, 1) := by decide +kernel
theorem d9_init_5 : decode b9_init 5 = .ok (.iconst 0, 1) := by decide +kernel
theorem d9_init_6 : decode b9_init 6 = .ok (.putfield 9, 3) := by decide +kernel
theorem d9_init_9 : decode b9_init 9 = .ok (.aload_n 0, 1) := by decide +kernel
theorem d9_init_10 : decode b9_init 10 = .ok (.bipush 12, 2) := by decide +kernel
theorem d9_init_12 : decode b9_init 12 = .ok (.newarray .int, 2) := by decide +kernel
theorem d9_init_14 : decode b9_init 14 = .ok (.putfield 15, 3) := by decide +kernel
theorem d9_init_17 : decode b9_init 17 = .ok (.aload_n 0, 1) := by decide +kernel
theorem d9_init_18 : decode b9_init 18 = .ok (.bipush 12, 2) := by decide +kernel
theorem d9_init_20 : decode b9_init 20 = .ok (.newarray .int, 2) := by decide +kernel
theorem d9_init_22 : decode b9_init 22 = .ok (.putfield 19, 3) := by decide +kernel
theorem d9_init_25 : decode b9_init 25 = .ok (.aload_n 0, 1) := by decide +kernel
theorem d9_init_26 : decode b9_init 26 = .ok (.bipush 12, 2) := by decide +kernel
theorem d9_init_28 : decode b9_init 28 = .ok (.newarray .int, 2) := by decide +kernel
theorem d9_init_30 : decode b9_init 30 = .ok (.putfield 22, 3) := by decide +kernel
theorem d9_init_33 : decode b9_init 33 = .ok (.aload_n 0, 1) := by decide +kernel
theorem d9_init_34 : decode b9_init 34 = .ok (.bipush 12, 2) := by decide +kernel
theorem d9_init_36 : decode b9_init 36 = .ok (.newarray .int, 2) := by decide +kernel
theorem d9_init_38 : decode b9_init 38 = .ok (.putfield 25, 3) := by decide +kernel
theorem d9_init_41 : decode b9_init 41 = .ok (.aload_n 0, 1) := by decide +kernel
theorem d9_init_42 : decode b9_init 42 = .ok (.bipush 48, 2) := by decide +kernel
theorem d9_init_44 : decode b9_init 44 = .ok (.newarray .int, 2) := by decide +kernel
theorem d9_init_46 : decode b9_init 46 = .ok (.putfield 28, 3) := by decide +kernel
theorem d9_init_49 : decode b9_init 49 = .ok (.aload_n 0, 1) := by decide +kernel
theorem d9_init_50 : decode b9_init 50 = .ok (.bipush 12, 2) := by decide +kernel
theorem d9_init_52 : decode b9_init 52 = .ok (.newarray .int, 2) := by decide +kernel
theorem d9_init_54 : decode b9_init 54 = .ok (.putfield 31, 3) := by decide +kernel
theorem d9_init_57 : decode b9_init 57 = .ok (.aload_n 0, 1) := by decide +kernel
theorem d9_init_58 : decode b9_init 58 = .ok (.iconst 0, 1) := by decide +kernel
theorem d9_init_59 : decode b9_init 59 = .ok (.putfield 34, 3) := by decide +kernel
theorem d9_init_62 : decode b9_init 62 = .ok (.aload_n 0, 1) := by decide +kernel
theorem d9_init_63 : decode b9_init 63 = .ok (.iconst 0, 1) := by decide +kernel
theorem d9_init_64 : decode b9_init 64 = .ok (.putfield 37, 3) := by decide +kernel
theorem d9_init_67 : decode b9_init 67 = .ok (.return_, 1) := by decide +kernel
def cz_9 (cA : Nat → ClassId) (q : Nat) (x : Nat × Nat × Nat × Nat × Nat × Nat) : va_W := [(q, .inr (9, [.int (0 : Int32), .ref x.1, .ref x.2.1, .ref x.2.2.1, .ref x.2.2.2.1, .ref x.2.2.2.2.1, .ref x.2.2.2.2.2, .int (0 : Int32), .int (0 : Int32)])), (x.1, .inl (cA 0, 12, .inl (fun _ => 0))), (x.2.1, .inl (cA 0, 12, .inl (fun _ => 0))), (x.2.2.1, .inl (cA 0, 12, .inl (fun _ => 0))), (x.2.2.2.1, .inl (cA 0, 12, .inl (fun _ => 0))), (x.2.2.2.2.1, .inl (cA 0, 48, .inl (fun _ => 0))), (x.2.2.2.2.2, .inl (cA 0, 12, .inl (fun _ => 0)))]
theorem mo_9 : Cond.methodLink cn_9 3 Lib.objectInit ∈ ce_cm := ce_cm_of (List.mem_of_getElem? (i := 269) (by decide +kernel)) (by decide +kernel)
set_option maxRecDepth 20000 in
set_option maxHeartbeats 4000000 in
theorem ci_9 (l : Launch) (D : va_G) (cA : Nat → ClassId) (aK aV : Nat → Nat) (B0 : Nat) (pre : va_W) (q : Nat) : cx_Ct l D cA B0 (ce_St aK aV B0) y9_init b9_init 1 1 12 6 108 [.ref q] (pre ++ [(q, .inr (9, [.int 0, .null, .null, .null, .null, .null, .null, .int 0, .int 0]))]) (fun (_ : Nat × Nat × Nat × Nat × Nat × Nat) => True) (fun x => pre ++ cz_9 cA q x) := by
  refine cx_enter (by decide) rfl rfl (Nat.le_of_ble_eq_true rfl) (fun p e0 s m below meth c ls C hH hl => ?_)
  have hl : lv_has ls 1 [(0, .ref q)] := hl
  have hx := C.1
  have hb := C.2.1
  refine lv_aload_n hx hb d9_init_0 rfl (lv_at hl 0 rfl) ?_
  refine cx_obj C mo_9 mI_obj mC_obj hl.1 d9_init_1 (Nat.le_of_ble_eq_true rfl) (Nat.le_of_ble_eq_true rfl) ?_
  refine lv_aload_n hx hb d9_init_4 rfl (lv_at hl 0 rfl) ?_
  refine lv_iconst (v := (0 : Int32)) hx hb d9_init_5 (by decide) ?_
  refine cx_put C hH (i := 0) (ci := 9) (j := 0) (N := 9) (fy := fy_9) (v := .int (0 : Int32)) rfl rfl fw_9 fo_9 fn_9 (by decide) fl_9_9 rfl rfl rfl (Nat.le_of_ble_eq_true rfl) d9_init_6 (fun H locs hH => ?_)
  have hH : cx_H D B0 s (pre ++ [(q, .inr (9, [.int (0 : Int32), .null, .null, .null, .null, .null, .null, .int 0, .int 0]))]) _ _ := hH
  refine lv_aload_n hx hb d9_init_9 rfl (lv_at hl 0 rfl) ?_
  refine lv_bipush (v := (12 : Int32)) hx hb d9_init_10 (by decide) ?_
  refine cx_newa C hH .int 0 (ty := .int) rfl rfl mA_0 (fun _ => rfl) rfl (N := 12) (by decide) (by decide) (by decide) (Nat.le_of_ble_eq_true rfl) (Nat.le_of_ble_eq_true rfl) d9_init_12 (fun a12 H hH => ?_)
  have hH : cx_H D B0 s (pre ++ [(q, .inr (9, [.int (0 : Int32), .null, .null, .null, .null, .null, .null, .int 0, .int 0])), (a12, .inl (cA 0, 12, .inl (fun _ => 0)))]) _ _ := hH
  refine cx_put C hH (i := 0) (ci := 9) (j := 1) (N := 9) (fy := fy_9) (v := .ref a12) rfl rfl fw_9 fo_9 fn_9 (by decide) fl_9_15 rfl rfl rfl (Nat.le_of_ble_eq_true rfl) d9_init_14 (fun H locs hH => ?_)
  have hH : cx_H D B0 s (pre ++ [(q, .inr (9, [.int (0 : Int32), .ref a12, .null, .null, .null, .null, .null, .int 0, .int 0])), (a12, .inl (cA 0, 12, .inl (fun _ => 0)))]) _ _ := hH
  refine lv_aload_n hx hb d9_init_17 rfl (lv_at hl 0 rfl) ?_
  refine lv_bipush (v := (12 : Int32)) hx hb d9_init_18 (by decide) ?_
  refine cx_newa C hH .int 0 (ty := .int) rfl rfl mA_0 (fun _ => rfl) rfl (N := 12) (by decide) (by decide) (by decide) (Nat.le_of_ble_eq_true rfl) (Nat.le_of_ble_eq_true rfl) d9_init_20 (fun a20 H hH => ?_)
  have hH : cx_H D B0 s (pre ++ [(q, .inr (9, [.int (0 : Int32), .ref a12, .null, .null, .null, .null, .null, .int 0, .int 0])), (a12, .inl (cA 0, 12, .inl (fun _ => 0))), (a20, .inl (cA 0, 12, .inl (fun _ => 0)))]) _ _ := hH
  refine cx_put C hH (i := 0) (ci := 9) (j := 2) (N := 9) (fy := fy_9) (v := .ref a20) rfl rfl fw_9 fo_9 fn_9 (by decide) fl_9_19 rfl rfl rfl (Nat.le_of_ble_eq_true rfl) d9_init_22 (fun H locs hH => ?_)
  have hH : cx_H D B0 s (pre ++ [(q, .inr (9, [.int (0 : Int32), .ref a12, .ref a20, .null, .null, .null, .null, .int 0, .int 0])), (a12, .inl (cA 0, 12, .inl (fun _ => 0))), (a20, .inl (cA 0, 12, .inl (fun _ => 0)))]) _ _ := hH
  refine lv_aload_n hx hb d9_init_25 rfl (lv_at hl 0 rfl) ?_
  refine lv_bipush (v := (12 : Int32)) hx hb d9_init_26 (by decide) ?_
  refine cx_newa C hH .int 0 (ty := .int) rfl rfl mA_0 (fun _ => rfl) rfl (N := 12) (by decide) (by decide) (by decide) (Nat.le_of_ble_eq_true rfl) (Nat.le_of_ble_eq_true rfl) d9_init_28 (fun a28 H hH => ?_)
  have hH : cx_H D B0 s (pre ++ [(q, .inr (9, [.int (0 : Int32), .ref a12, .ref a20, .null, .null, .null, .null, .int 0, .int 0])), (a12, .inl (cA 0, 12, .inl (fun _ => 0))), (a20, .inl (cA 0, 12, .inl (fun _ => 0))), (a28, .inl (cA 0, 12, .inl (fun _ => 0)))]) _ _ := hH
  refine cx_put C hH (i := 0) (ci := 9) (j := 3) (N := 9) (fy := fy_9) (v := .ref a28) rfl rfl fw_9 fo_9 fn_9 (by decide) fl_9_22 rfl rfl rfl (Nat.le_of_ble_eq_true rfl) d9_init_30 (fun H locs hH => ?_)
  have hH : cx_H D B0 s (pre ++ [(q, .inr (9, [.int (0 : Int32), .ref a12, .ref a20, .ref a28, .null, .null, .null, .int 0, .int 0])), (a12, .inl (cA 0, 12, .inl (fun _ => 0))), (a20, .inl (cA 0, 12, .inl (fun _ => 0))), (a28, .inl (cA 0, 12, .inl (fun _ => 0)))]) _ _ := hH
  refine lv_aload_n hx hb d9_init_33 rfl (lv_at hl 0 rfl) ?_
  refine lv_bipush (v := (12 : Int32)) hx hb d9_init_34 (by decide) ?_
  refine cx_newa C hH .int 0 (ty := .int) rfl rfl mA_0 (fun _ => rfl) rfl (N := 12) (by decide) (by decide) (by decide) (Nat.le_of_ble_eq_true rfl) (Nat.le_of_ble_eq_true rfl) d9_init_36 (fun a36 H hH => ?_)
  have hH : cx_H D B0 s (pre ++ [(q, .inr (9, [.int (0 : Int32), .ref a12, .ref a20, .ref a28, .null, .null, .null, .int 0, .int 0])), (a12, .inl (cA 0, 12, .inl (fun _ => 0))), (a20, .inl (cA 0, 12, .inl (fun _ => 0))), (a28, .inl (cA 0, 12, .inl (fun _ => 0))), (a36, .inl (cA 0, 12, .inl (fun _ => 0)))]) _ _ := hH
  refine cx_put C hH (i := 0) (ci := 9) (j := 4) (N := 9) (fy := fy_9) (v := .ref a36) rfl rfl fw_9 fo_9 fn_9 (by decide) fl_9_25 rfl rfl rfl (Nat.le_of_ble_eq_true rfl) d9_init_38 (fun H locs hH => ?_)
  have hH : cx_H D B0 s (pre ++ [(q, .inr (9, [.int (0 : Int32), .ref a12, .ref a20, .ref a28, .ref a36, .null, .null, .int 0, .int 0])), (a12, .inl (cA 0, 12, .inl (fun _ => 0))), (a20, .inl (cA 0, 12, .inl (fun _ => 0))), (a28, .inl (cA 0, 12, .inl (fun _ => 0))), (a36, .inl (cA 0, 12, .inl (fun _ => 0)))]) _ _ := hH
  refine lv_aload_n hx hb d9_init_41 rfl (lv_at hl 0 rfl) ?_
  refine lv_bipush (v := (48 : Int32)) hx hb d9_init_42 (by decide) ?_
  refine cx_newa C hH .int 0 (ty := .int) rfl rfl mA_0 (fun _ => rfl) rfl (N := 48) (by decide) (by decide) (by decide) (Nat.le_of_ble_eq_true rfl) (Nat.le_of_ble_eq_true rfl) d9_init_44 (fun a44 H hH => ?_)
  have hH : cx_H D B0 s (pre ++ [(q, .inr (9, [.int (0 : Int32), .ref a12, .ref a20, .ref a28, .ref a36, .null, .null, .int 0, .int 0])), (a12, .inl (cA 0, 12, .inl (fun _ => 0))), (a20, .inl (cA 0, 12, .inl (fun _ => 0))), (a28, .inl (cA 0, 12, .inl (fun _ => 0))), (a36, .inl (cA 0, 12, .inl (fun _ => 0))), (a44, .inl (cA 0, 48, .inl (fun _ => 0)))]) _ _ := hH
  refine cx_put C hH (i := 0) (ci := 9) (j := 5) (N := 9) (fy := fy_9) (v := .ref a44) rfl rfl fw_9 fo_9 fn_9 (by decide) fl_9_28 rfl rfl rfl (Nat.le_of_ble_eq_true rfl) d9_init_46 (fun H locs hH => ?_)
  have hH : cx_H D B0 s (pre ++ [(q, .inr (9, [.int (0 : Int32), .ref a12, .ref a20, .ref a28, .ref a36, .ref a44, .null, .int 0, .int 0])), (a12, .inl (cA 0, 12, .inl (fun _ => 0))), (a20, .inl (cA 0, 12, .inl (fun _ => 0))), (a28, .inl (cA 0, 12, .inl (fun _ => 0))), (a36, .inl (cA 0, 12, .inl (fun _ => 0))), (a44, .inl (cA 0, 48, .inl (fun _ => 0)))]) _ _ := hH
  refine lv_aload_n hx hb d9_init_49 rfl (lv_at hl 0 rfl) ?_
  refine lv_bipush (v := (12 : Int32)) hx hb d9_init_50 (by decide) ?_
  refine cx_newa C hH .int 0 (ty := .int) rfl rfl mA_0 (fun _ => rfl) rfl (N := 12) (by decide) (by decide) (by decide) (Nat.le_of_ble_eq_true rfl) (Nat.le_of_ble_eq_true rfl) d9_init_52 (fun a52 H hH => ?_)
  have hH : cx_H D B0 s (pre ++ [(q, .inr (9, [.int (0 : Int32), .ref a12, .ref a20, .ref a28, .ref a36, .ref a44, .null, .int 0, .int 0])), (a12, .inl (cA 0, 12, .inl (fun _ => 0))), (a20, .inl (cA 0, 12, .inl (fun _ => 0))), (a28, .inl (cA 0, 12, .inl (fun _ => 0))), (a36, .inl (cA 0, 12, .inl (fun _ => 0))), (a44, .inl (cA 0, 48, .inl (fun _ => 0))), (a52, .inl (cA 0, 12, .inl (fun _ => 0)))]) _ _ := hH
  refine cx_put C hH (i := 0) (ci := 9) (j := 6) (N := 9) (fy := fy_9) (v := .ref a52) rfl rfl fw_9 fo_9 fn_9 (by decide) fl_9_31 rfl rfl rfl (Nat.le_of_ble_eq_true rfl) d9_init_54 (fun H locs hH => ?_)
  have hH : cx_H D B0 s (pre ++ [(q, .inr (9, [.int (0 : Int32), .ref a12, .ref a20, .ref a28, .ref a36, .ref a44, .ref a52, .int 0, .int 0])), (a12, .inl (cA 0, 12, .inl (fun _ => 0))), (a20, .inl (cA 0, 12, .inl (fun _ => 0))), (a28, .inl (cA 0, 12, .inl (fun _ => 0))), (a36, .inl (cA 0, 12, .inl (fun _ => 0))), (a44, .inl (cA 0, 48, .inl (fun _ => 0))), (a52, .inl (cA 0, 12, .inl (fun _ => 0)))]) _ _ := hH
  refine lv_aload_n hx hb d9_init_57 rfl (lv_at hl 0 rfl) ?_
  refine lv_iconst (v := (0 : Int32)) hx hb d9_init_58 (by decide) ?_
  refine cx_put C hH (i := 0) (ci := 9) (j := 7) (N := 9) (fy := fy_9) (v := .int (0 : Int32)) rfl rfl fw_9 fo_9 fn_9 (by decide) fl_9_34 rfl rfl rfl (Nat.le_of_ble_eq_true rfl) d9_init_59 (fun H locs hH => ?_)
  have hH : cx_H D B0 s (pre ++ [(q, .inr (9, [.int (0 : Int32), .ref a12, .ref a20, .ref a28, .ref a36, .ref a44, .ref a52, .int (0 : Int32), .int 0])), (a12, .inl (cA 0, 12, .inl (fun _ => 0))), (a20, .inl (cA 0, 12, .inl (fun _ => 0))), (a28, .inl (cA 0, 12, .inl (fun _ => 0))), (a36, .inl (cA 0, 12, .inl (fun _ => 0))), (a44, .inl (cA 0, 48, .inl (fun _ => 0))), (a52, .inl (cA 0, 12, .inl (fun _ => 0)))]) _ _ := hH
  refine lv_aload_n hx hb d9_init_62 rfl (lv_at hl 0 rfl) ?_
  refine lv_iconst (v := (0 : Int32)) hx hb d9_init_63 (by decide) ?_
  refine cx_put C hH (i := 0) (ci := 9) (j := 8) (N := 9) (fy := fy_9) (v := .int (0 : Int32)) rfl rfl fw_9 fo_9 fn_9 (by decide) fl_9_37 rfl rfl rfl (Nat.le_of_ble_eq_true rfl) d9_init_64 (fun H locs hH => ?_)
  have hH : cx_H D B0 s (pre ++ [(q, .inr (9, [.int (0 : Int32), .ref a12, .ref a20, .ref a28, .ref a36, .ref a44, .ref a52, .int (0 : Int32), .int (0 : Int32)])), (a12, .inl (cA 0, 12, .inl (fun _ => 0))), (a20, .inl (cA 0, 12, .inl (fun _ => 0))), (a28, .inl (cA 0, 12, .inl (fun _ => 0))), (a36, .inl (cA 0, 12, .inl (fun _ => 0))), (a44, .inl (cA 0, 48, .inl (fun _ => 0))), (a52, .inl (cA 0, 12, .inl (fun _ => 0)))]) _ _ := hH
  exact cx_ret C (ce_sok aK aV B0) (a12, a20, a28, a36, a44, a52) trivial hH d9_init_67
abbrev b0_init : ByteArray := prog_2_method_1_code
def y0_init : MethodName := ⟨cn_0, "<init>", "()V"⟩
theorem d0_init_0 : decode b0_init 0 = .ok (.aload_n 0, 1) := by decide +kernel
theorem d0_init_1 : decode b0_init 1 = .ok (.invokespecial 3, 3) := by decide +kernel
theorem d0_init_4 : decode b0_init 4 = .ok (.aload_n 0, 1) := by decide +kernel
theorem d0_init_5 : decode b0_init 5 = .ok (.iconst 0, 1) := by decide +kernel
theorem d0_init_6 : decode b0_init 6 = .ok (.putfield 9, 3) := by decide +kernel
theorem d0_init_9 : decode b0_init 9 = .ok (.aload_n 0, 1) := by decide +kernel
theorem d0_init_10 : decode b0_init 10 = .ok (.bipush 20, 2) := by decide +kernel
theorem d0_init_12 : decode b0_init 12 = .ok (.newarray .int, 2) := by decide +kernel
theorem d0_init_14 : decode b0_init 14 = .ok (.putfield 15, 3) := by decide +kernel
theorem d0_init_17 : decode b0_init 17 = .ok (.aload_n 0, 1) := by decide +kernel
theorem d0_init_18 : decode b0_init 18 = .ok (.bipush 20, 2) := by decide +kernel
theorem d0_init_20 : decode b0_init 20 = .ok (.newarray .int, 2) := by decide +kernel
theorem d0_init_22 : decode b0_init 22 = .ok (.putfield 19, 3) := by decide +kernel
theorem d0_init_25 : decode b0_init 25 = .ok (.aload_n 0, 1) := by decide +kernel
theorem d0_init_26 : decode b0_init 26 = .ok (.bipush 20, 2) := by decide +kernel
theorem d0_init_28 : decode b0_init 28 = .ok (.newarray .int, 2) := by decide +kernel
theorem d0_init_30 : decode b0_init 30 = .ok (.putfield 22, 3) := by decide +kernel
theorem d0_init_33 : decode b0_init 33 = .ok (.aload_n 0, 1) := by decide +kernel
theorem d0_init_34 : decode b0_init 34 = .ok (.bipush 20, 2) := by decide +kernel
theorem d0_init_36 : decode b0_init 36 = .ok (.newarray .int, 2) := by decide +kernel
theorem d0_init_38 : decode b0_init 38 = .ok (.putfield 25, 3) := by decide +kernel
theorem d0_init_41 : decode b0_init 41 = .ok (.return_, 1) := by decide +kernel
def cz_0 (cA : Nat → ClassId) (q : Nat) (x : Nat × Nat × Nat × Nat) : va_W := [(q, .inr (0, [.int (0 : Int32), .ref x.1, .ref x.2.1, .ref x.2.2.1, .ref x.2.2.2])), (x.1, .inl (cA 0, 20, .inl (fun _ => 0))), (x.2.1, .inl (cA 0, 20, .inl (fun _ => 0))), (x.2.2.1, .inl (cA 0, 20, .inl (fun _ => 0))), (x.2.2.2, .inl (cA 0, 20, .inl (fun _ => 0)))]
theorem mo_0 : Cond.methodLink cn_0 3 Lib.objectInit ∈ ce_cm := ce_cm_of (List.mem_of_getElem? (i := 307) (by decide +kernel)) (by decide +kernel)
set_option maxRecDepth 20000 in
set_option maxHeartbeats 4000000 in
theorem ci_0 (l : Launch) (D : va_G) (cA : Nat → ClassId) (aK aV : Nat → Nat) (B0 : Nat) (pre : va_W) (q : Nat) : cx_Ct l D cA B0 (ce_St aK aV B0) y0_init b0_init 1 1 12 4 80 [.ref q] (pre ++ [(q, .inr (0, [.int 0, .null, .null, .null, .null]))]) (fun (_ : Nat × Nat × Nat × Nat) => True) (fun x => pre ++ cz_0 cA q x) := by
  refine cx_enter (by decide) rfl rfl (Nat.le_of_ble_eq_true rfl) (fun p e0 s m below meth c ls C hH hl => ?_)
  have hl : lv_has ls 1 [(0, .ref q)] := hl
  have hx := C.1
  have hb := C.2.1
  refine lv_aload_n hx hb d0_init_0 rfl (lv_at hl 0 rfl) ?_
  refine cx_obj C mo_0 mI_obj mC_obj hl.1 d0_init_1 (Nat.le_of_ble_eq_true rfl) (Nat.le_of_ble_eq_true rfl) ?_
  refine lv_aload_n hx hb d0_init_4 rfl (lv_at hl 0 rfl) ?_
  refine lv_iconst (v := (0 : Int32)) hx hb d0_init_5 (by decide) ?_
  refine cx_put C hH (i := 0) (ci := 0) (j := 0) (N := 5) (fy := fy_0) (v := .int (0 : Int32)) rfl rfl fw_0 fo_0 fn_0 (by decide) fl_0_9 rfl rfl rfl (Nat.le_of_ble_eq_true rfl) d0_init_6 (fun H locs hH => ?_)
  have hH : cx_H D B0 s (pre ++ [(q, .inr (0, [.int (0 : Int32), .null, .null, .null, .null]))]) _ _ := hH
  refine lv_aload_n hx hb d0_init_9 rfl (lv_at hl 0 rfl) ?_
  refine lv_bipush (v := (20 : Int32)) hx hb d0_init_10 (by decide) ?_
  refine cx_newa C hH .int 0 (ty := .int) rfl rfl mA_0 (fun _ => rfl) rfl (N := 20) (by decide) (by decide) (by decide) (Nat.le_of_ble_eq_true rfl) (Nat.le_of_ble_eq_true rfl) d0_init_12 (fun a12 H hH => ?_)
  have hH : cx_H D B0 s (pre ++ [(q, .inr (0, [.int (0 : Int32), .null, .null, .null, .null])), (a12, .inl (cA 0, 20, .inl (fun _ => 0)))]) _ _ := hH
  refine cx_put C hH (i := 0) (ci := 0) (j := 1) (N := 5) (fy := fy_0) (v := .ref a12) rfl rfl fw_0 fo_0 fn_0 (by decide) fl_0_15 rfl rfl rfl (Nat.le_of_ble_eq_true rfl) d0_init_14 (fun H locs hH => ?_)
  have hH : cx_H D B0 s (pre ++ [(q, .inr (0, [.int (0 : Int32), .ref a12, .null, .null, .null])), (a12, .inl (cA 0, 20, .inl (fun _ => 0)))]) _ _ := hH
  refine lv_aload_n hx hb d0_init_17 rfl (lv_at hl 0 rfl) ?_
  refine lv_bipush (v := (20 : Int32)) hx hb d0_init_18 (by decide) ?_
  refine cx_newa C hH .int 0 (ty := .int) rfl rfl mA_0 (fun _ => rfl) rfl (N := 20) (by decide) (by decide) (by decide) (Nat.le_of_ble_eq_true rfl) (Nat.le_of_ble_eq_true rfl) d0_init_20 (fun a20 H hH => ?_)
  have hH : cx_H D B0 s (pre ++ [(q, .inr (0, [.int (0 : Int32), .ref a12, .null, .null, .null])), (a12, .inl (cA 0, 20, .inl (fun _ => 0))), (a20, .inl (cA 0, 20, .inl (fun _ => 0)))]) _ _ := hH
  refine cx_put C hH (i := 0) (ci := 0) (j := 2) (N := 5) (fy := fy_0) (v := .ref a20) rfl rfl fw_0 fo_0 fn_0 (by decide) fl_0_19 rfl rfl rfl (Nat.le_of_ble_eq_true rfl) d0_init_22 (fun H locs hH => ?_)
  have hH : cx_H D B0 s (pre ++ [(q, .inr (0, [.int (0 : Int32), .ref a12, .ref a20, .null, .null])), (a12, .inl (cA 0, 20, .inl (fun _ => 0))), (a20, .inl (cA 0, 20, .inl (fun _ => 0)))]) _ _ := hH
  refine lv_aload_n hx hb d0_init_25 rfl (lv_at hl 0 rfl) ?_
  refine lv_bipush (v := (20 : Int32)) hx hb d0_init_26 (by decide) ?_
  refine cx_newa C hH .int 0 (ty := .int) rfl rfl mA_0 (fun _ => rfl) rfl (N := 20) (by decide) (by decide) (by decide) (Nat.le_of_ble_eq_true rfl) (Nat.le_of_ble_eq_true rfl) d0_init_28 (fun a28 H hH => ?_)
  have hH : cx_H D B0 s (pre ++ [(q, .inr (0, [.int (0 : Int32), .ref a12, .ref a20, .null, .null])), (a12, .inl (cA 0, 20, .inl (fun _ => 0))), (a20, .inl (cA 0, 20, .inl (fun _ => 0))), (a28, .inl (cA 0, 20, .inl (fun _ => 0)))]) _ _ := hH
  refine cx_put C hH (i := 0) (ci := 0) (j := 3) (N := 5) (fy := fy_0) (v := .ref a28) rfl rfl fw_0 fo_0 fn_0 (by decide) fl_0_22 rfl rfl rfl (Nat.le_of_ble_eq_true rfl) d0_init_30 (fun H locs hH => ?_)
  have hH : cx_H D B0 s (pre ++ [(q, .inr (0, [.int (0 : Int32), .ref a12, .ref a20, .ref a28, .null])), (a12, .inl (cA 0, 20, .inl (fun _ => 0))), (a20, .inl (cA 0, 20, .inl (fun _ => 0))), (a28, .inl (cA 0, 20, .inl (fun _ => 0)))]) _ _ := hH
  refine lv_aload_n hx hb d0_init_33 rfl (lv_at hl 0 rfl) ?_
  refine lv_bipush (v := (20 : Int32)) hx hb d0_init_34 (by decide) ?_
  refine cx_newa C hH .int 0 (ty := .int) rfl rfl mA_0 (fun _ => rfl) rfl (N := 20) (by decide) (by decide) (by decide) (Nat.le_of_ble_eq_true rfl) (Nat.le_of_ble_eq_true rfl) d0_init_36 (fun a36 H hH => ?_)
  have hH : cx_H D B0 s (pre ++ [(q, .inr (0, [.int (0 : Int32), .ref a12, .ref a20, .ref a28, .null])), (a12, .inl (cA 0, 20, .inl (fun _ => 0))), (a20, .inl (cA 0, 20, .inl (fun _ => 0))), (a28, .inl (cA 0, 20, .inl (fun _ => 0))), (a36, .inl (cA 0, 20, .inl (fun _ => 0)))]) _ _ := hH
  refine cx_put C hH (i := 0) (ci := 0) (j := 4) (N := 5) (fy := fy_0) (v := .ref a36) rfl rfl fw_0 fo_0 fn_0 (by decide) fl_0_25 rfl rfl rfl (Nat.le_of_ble_eq_true rfl) d0_init_38 (fun H locs hH => ?_)
  have hH : cx_H D B0 s (pre ++ [(q, .inr (0, [.int (0 : Int32), .ref a12, .ref a20, .ref a28, .ref a36])), (a12, .inl (cA 0, 20, .inl (fun _ => 0))), (a20, .inl (cA 0, 20, .inl (fun _ => 0))), (a28, .inl (cA 0, 20, .inl (fun _ => 0))), (a36, .inl (cA 0, 20, .inl (fun _ => 0)))]) _ _ := hH
  exact cx_ret C (ce_sok aK aV B0) (a12, a20, a28, a36) trivial hH d0_init_41
abbrev b10_init : ByteArray := prog_12_method_1_code
def y10_init : MethodName := ⟨cn_10, "<init>", "()V"⟩
theorem d10_init_0 : decode b10_init 0 = .ok (.aload_n 0, 1) := by decide +kernel
theorem d10_init_1 : decode b10_init 1 = .ok (.invokespecial 3, 3) := by decide +kernel
theorem d10_init_4 : decode b10_init 4 = .ok (.aload_n 0, 1) := by decide +kernel
theorem d10_init_5 : decode b10_init 5 = .ok (.iconst 0, 1) := by decide +kernel
theorem d10_init_6 : decode b10_init 6 = .ok (.putfield 9, 3) := by decide +kernel
theorem d10_init_9 : decode b10_init 9 = .ok (.aload_n 0, 1) := by decide +kernel
theorem d10_init_10 : decode b10_init 10 = .ok (.bipush 10, 2) := by decide +kernel
theorem d10_init_12 : decode b10_init 12 = .ok (.newarray .int, 2) := by decide +kernel
theorem d10_init_14 : decode b10_init 14 = .ok (.putfield 15, 3) := by decide +kernel
theorem d10_init_17 : decode b10_init 17 = .ok (.aload_n 0, 1) := by decide +kernel
theorem d10_init_18 : decode b10_init 18 = .ok (.bipush 10, 2) := by decide +kernel
theorem d10_init_20 : decode b10_init 20 = .ok (.newarray .int, 2) := by decide +kernel
theorem d10_init_22 : decode b10_init 22 = .ok (.putfield 19, 3) := by decide +kernel
theorem d10_init_25 : decode b10_init 25 = .ok (.aload_n 0, 1) := by decide +kernel
theorem d10_init_26 : decode b10_init 26 = .ok (.bipush 10, 2) := by decide +kernel
theorem d10_init_28 : decode b10_init 28 = .ok (.newarray .int, 2) := by decide +kernel
theorem d10_init_30 : decode b10_init 30 = .ok (.putfield 22, 3) := by decide +kernel
theorem d10_init_33 : decode b10_init 33 = .ok (.return_, 1) := by decide +kernel
def cz_10 (cA : Nat → ClassId) (q : Nat) (x : Nat × Nat × Nat) : va_W := [(q, .inr (10, [.int (0 : Int32), .ref x.1, .ref x.2.1, .ref x.2.2])), (x.1, .inl (cA 0, 10, .inl (fun _ => 0))), (x.2.1, .inl (cA 0, 10, .inl (fun _ => 0))), (x.2.2, .inl (cA 0, 10, .inl (fun _ => 0)))]
theorem mo_10 : Cond.methodLink cn_10 3 Lib.objectInit ∈ ce_cm := ce_cm_of (List.mem_of_getElem? (i := 330) (by decide +kernel)) (by decide +kernel)
set_option maxRecDepth 20000 in
set_option maxHeartbeats 4000000 in
theorem ci_10 (l : Launch) (D : va_G) (cA : Nat → ClassId) (aK aV : Nat → Nat) (B0 : Nat) (pre : va_W) (q : Nat) : cx_Ct l D cA B0 (ce_St aK aV B0) y10_init b10_init 1 1 12 3 30 [.ref q] (pre ++ [(q, .inr (10, [.int 0, .null, .null, .null]))]) (fun (_ : Nat × Nat × Nat) => True) (fun x => pre ++ cz_10 cA q x) := by
  refine cx_enter (by decide) rfl rfl (Nat.le_of_ble_eq_true rfl) (fun p e0 s m below meth c ls C hH hl => ?_)
  have hl : lv_has ls 1 [(0, .ref q)] := hl
  have hx := C.1
  have hb := C.2.1
  refine lv_aload_n hx hb d10_init_0 rfl (lv_at hl 0 rfl) ?_
  refine cx_obj C mo_10 mI_obj mC_obj hl.1 d10_init_1 (Nat.le_of_ble_eq_true rfl) (Nat.le_of_ble_eq_true rfl) ?_
  refine lv_aload_n hx hb d10_init_4 rfl (lv_at hl 0 rfl) ?_
  refine lv_iconst (v := (0 : Int32)) hx hb d10_init_5 (by decide) ?_
  refine cx_put C hH (i := 0) (ci := 10) (j := 0) (N := 4) (fy := fy_10) (v := .int (0 : Int32)) rfl rfl fw_10 fo_10 fn_10 (by decide) fl_10_9 rfl rfl rfl (Nat.le_of_ble_eq_true rfl) d10_init_6 (fun H locs hH => ?_)
  have hH : cx_H D B0 s (pre ++ [(q, .inr (10, [.int (0 : Int32), .null, .null, .null]))]) _ _ := hH
  refine lv_aload_n hx hb d10_init_9 rfl (lv_at hl 0 rfl) ?_
  refine lv_bipush (v := (10 : Int32)) hx hb d10_init_10 (by decide) ?_
  refine cx_newa C hH .int 0 (ty := .int) rfl rfl mA_0 (fun _ => rfl) rfl (N := 10) (by decide) (by decide) (by decide) (Nat.le_of_ble_eq_true rfl) (Nat.le_of_ble_eq_true rfl) d10_init_12 (fun a12 H hH => ?_)
  have hH : cx_H D B0 s (pre ++ [(q, .inr (10, [.int (0 : Int32), .null, .null, .null])), (a12, .inl (cA 0, 10, .inl (fun _ => 0)))]) _ _ := hH
  refine cx_put C hH (i := 0) (ci := 10) (j := 1) (N := 4) (fy := fy_10) (v := .ref a12) rfl rfl fw_10 fo_10 fn_10 (by decide) fl_10_15 rfl rfl rfl (Nat.le_of_ble_eq_true rfl) d10_init_14 (fun H locs hH => ?_)
  have hH : cx_H D B0 s (pre ++ [(q, .inr (10, [.int (0 : Int32), .ref a12, .null, .null])), (a12, .inl (cA 0, 10, .inl (fun _ => 0)))]) _ _ := hH
  refine lv_aload_n hx hb d10_init_17 rfl (lv_at hl 0 rfl) ?_
  refine lv_bipush (v := (10 : Int32)) hx hb d10_init_18 (by decide) ?_
  refine cx_newa C hH .int 0 (ty := .int) rfl rfl mA_0 (fun _ => rfl) rfl (N := 10) (by decide) (by decide) (by decide) (Nat.le_of_ble_eq_true rfl) (Nat.le_of_ble_eq_true rfl) d10_init_20 (fun a20 H hH => ?_)
  have hH : cx_H D B0 s (pre ++ [(q, .inr (10, [.int (0 : Int32), .ref a12, .null, .null])), (a12, .inl (cA 0, 10, .inl (fun _ => 0))), (a20, .inl (cA 0, 10, .inl (fun _ => 0)))]) _ _ := hH
  refine cx_put C hH (i := 0) (ci := 10) (j := 2) (N := 4) (fy := fy_10) (v := .ref a20) rfl rfl fw_10 fo_10 fn_10 (by decide) fl_10_19 rfl rfl rfl (Nat.le_of_ble_eq_true rfl) d10_init_22 (fun H locs hH => ?_)
  have hH : cx_H D B0 s (pre ++ [(q, .inr (10, [.int (0 : Int32), .ref a12, .ref a20, .null])), (a12, .inl (cA 0, 10, .inl (fun _ => 0))), (a20, .inl (cA 0, 10, .inl (fun _ => 0)))]) _ _ := hH
  refine lv_aload_n hx hb d10_init_25 rfl (lv_at hl 0 rfl) ?_
  refine lv_bipush (v := (10 : Int32)) hx hb d10_init_26 (by decide) ?_
  refine cx_newa C hH .int 0 (ty := .int) rfl rfl mA_0 (fun _ => rfl) rfl (N := 10) (by decide) (by decide) (by decide) (Nat.le_of_ble_eq_true rfl) (Nat.le_of_ble_eq_true rfl) d10_init_28 (fun a28 H hH => ?_)
  have hH : cx_H D B0 s (pre ++ [(q, .inr (10, [.int (0 : Int32), .ref a12, .ref a20, .null])), (a12, .inl (cA 0, 10, .inl (fun _ => 0))), (a20, .inl (cA 0, 10, .inl (fun _ => 0))), (a28, .inl (cA 0, 10, .inl (fun _ => 0)))]) _ _ := hH
  refine cx_put C hH (i := 0) (ci := 10) (j := 3) (N := 4) (fy := fy_10) (v := .ref a28) rfl rfl fw_10 fo_10 fn_10 (by decide) fl_10_22 rfl rfl rfl (Nat.le_of_ble_eq_true rfl) d10_init_30 (fun H locs hH => ?_)
  have hH : cx_H D B0 s (pre ++ [(q, .inr (10, [.int (0 : Int32), .ref a12, .ref a20, .ref a28])), (a12, .inl (cA 0, 10, .inl (fun _ => 0))), (a20, .inl (cA 0, 10, .inl (fun _ => 0))), (a28, .inl (cA 0, 10, .inl (fun _ => 0)))]) _ _ := hH
  exact cx_ret C (ce_sok aK aV B0) (a12, a20, a28) trivial hH d10_init_33
abbrev b2_init : ByteArray := prog_4_method_1_code
def y2_init : MethodName := ⟨cn_2, "<init>", "()V"⟩
theorem d2_init_0 : decode b2_init 0 = .ok (.aload_n 0, 1) := by decide +kernel
theorem d2_init_1 : decode b2_init 1 = .ok (.invokespecial 3, 3) := by decide +kernel
theorem d2_init_4 : decode b2_init 4 = .ok (.aload_n 0, 1) := by decide +kernel
theorem d2_init_5 : decode b2_init 5 = .ok (.iconst 0, 1) := by decide +kernel
theorem d2_init_6 : decode b2_init 6 = .ok (.putfield 9, 3) := by decide +kernel
theorem d2_init_9 : decode b2_init 9 = .ok (.aload_n 0, 1) := by decide +kernel
theorem d2_init_10 : decode b2_init 10 = .ok (.iconst 0, 1) := by decide +kernel
theorem d2_init_11 : decode b2_init 11 = .ok (.putfield 15, 3) := by decide +kernel
theorem d2_init_14 : decode b2_init 14 = .ok (.aload_n 0, 1) := by decide +kernel
theorem d2_init_15 : decode b2_init 15 = .ok (.bipush 10, 2) := by decide +kernel
theorem d2_init_17 : decode b2_init 17 = .ok (.newarray .int, 2) := by decide +kernel
theorem d2_init_19 : decode b2_init 19 = .ok (.putfield 18, 3) := by decide +kernel
theorem d2_init_22 : decode b2_init 22 = .ok (.aload_n 0, 1) := by decide +kernel
theorem d2_init_23 : decode b2_init 23 = .ok (.bipush 10, 2) := by decide +kernel
theorem d2_init_25 : decode b2_init 25 = .ok (.newarray .int, 2) := by decide +kernel
theorem d2_init_27 : decode b2_init 27 = .ok (.putfield 22, 3) := by decide +kernel
theorem d2_init_30 : decode b2_init 30 = .ok (.aload_n 0, 1) := by decide +kernel
theorem d2_init_31 : decode b2_init 31 = .ok (.bipush 10, 2) := by decide +kernel
theorem d2_init_33 : decode b2_init 33 = .ok (.newarray .int, 2) := by decide +kernel
theorem d2_init_35 : decode b2_init 35 = .ok (.putfield 25, 3) := by decide +kernel
theorem d2_init_38 : decode b2_init 38 = .ok (.return_, 1) := by decide +kernel
def cz_2 (cA : Nat → ClassId) (q : Nat) (x : Nat × Nat × Nat) : va_W := [(q, .inr (2, [.int (0 : Int32), .int (0 : Int32), .ref x.1, .ref x.2.1, .ref x.2.2])), (x.1, .inl (cA 0, 10, .inl (fun _ => 0))), (x.2.1, .inl (cA 0, 10, .inl (fun _ => 0))), (x.2.2, .inl (cA 0, 10, .inl (fun _ => 0)))]
theorem mo_2 : Cond.methodLink cn_2 3 Lib.objectInit ∈ ce_cm := ce_cm_of (List.mem_of_getElem? (i := 354) (by decide +kernel)) (by decide +kernel)
set_option maxRecDepth 20000 in
set_option maxHeartbeats 4000000 in
theorem ci_2 (l : Launch) (D : va_G) (cA : Nat → ClassId) (aK aV : Nat → Nat) (B0 : Nat) (pre : va_W) (q : Nat) : cx_Ct l D cA B0 (ce_St aK aV B0) y2_init b2_init 1 1 12 3 30 [.ref q] (pre ++ [(q, .inr (2, [.int 0, .int 0, .null, .null, .null]))]) (fun (_ : Nat × Nat × Nat) => True) (fun x => pre ++ cz_2 cA q x) := by
  refine cx_enter (by decide) rfl rfl (Nat.le_of_ble_eq_true rfl) (fun p e0 s m below meth c ls C hH hl => ?_)
  have hl : lv_has ls 1 [(0, .ref q)] := hl
  have hx := C.1
  have hb := C.2.1
  refine lv_aload_n hx hb d2_init_0 rfl (lv_at hl 0 rfl) ?_
  refine cx_obj C mo_2 mI_obj mC_obj hl.1 d2_init_1 (Nat.le_of_ble_eq_true rfl) (Nat.le_of_ble_eq_true rfl) ?_
  refine lv_aload_n hx hb d2_init_4 rfl (lv_at hl 0 rfl) ?_
  refine lv_iconst (v := (0 : Int32)) hx hb d2_init_5 (by decide) ?_
  refine cx_put C hH (i := 0) (ci := 2) (j := 0) (N := 5) (fy := fy_2) (v := .int (0 : Int32)) rfl rfl fw_2 fo_2 fn_2 (by decide) fl_2_9 rfl rfl rfl (Nat.le_of_ble_eq_true rfl) d2_init_6 (fun H locs hH => ?_)
  have hH : cx_H D B0 s (pre ++ [(q, .inr (2, [.int (0 : Int32), .int 0, .null, .null, .null]))]) _ _ := hH
  refine lv_aload_n hx hb d2_init_9 rfl (lv_at hl 0 rfl) ?_
  refine lv_iconst (v := (0 : Int32)) hx hb d2_init_10 (by decide) ?_
  refine cx_put C hH (i := 0) (ci := 2) (j := 1) (N := 5) (fy := fy_2) (v := .int (0 : Int32)) rfl rfl fw_2 fo_2 fn_2 (by decide) fl_2_15 rfl rfl rfl (Nat.le_of_ble_eq_true rfl) d2_init_11 (fun H locs hH => ?_)
  have hH : cx_H D B0 s (pre ++ [(q, .inr (2, [.int (0 : Int32), .int (0 : Int32), .null, .null, .null]))]) _ _ := hH
  refine lv_aload_n hx hb d2_init_14 rfl (lv_at hl 0 rfl) ?_
  refine lv_bipush (v := (10 : Int32)) hx hb d2_init_15 (by decide) ?_
  refine cx_newa C hH .int 0 (ty := .int) rfl rfl mA_0 (fun _ => rfl) rfl (N := 10) (by decide) (by decide) (by decide) (Nat.le_of_ble_eq_true rfl) (Nat.le_of_ble_eq_true rfl) d2_init_17 (fun a17 H hH => ?_)
  have hH : cx_H D B0 s (pre ++ [(q, .inr (2, [.int (0 : Int32), .int (0 : Int32), .null, .null, .null])), (a17, .inl (cA 0, 10, .inl (fun _ => 0)))]) _ _ := hH
  refine cx_put C hH (i := 0) (ci := 2) (j := 2) (N := 5) (fy := fy_2) (v := .ref a17) rfl rfl fw_2 fo_2 fn_2 (by decide) fl_2_18 rfl rfl rfl (Nat.le_of_ble_eq_true rfl) d2_init_19 (fun H locs hH => ?_)
  have hH : cx_H D B0 s (pre ++ [(q, .inr (2, [.int (0 : Int32), .int (0 : Int32), .ref a17, .null, .null])), (a17, .inl (cA 0, 10, .inl (fun _ => 0)))]) _ _ := hH
  refine lv_aload_n hx hb d2_init_22 rfl (lv_at hl 0 rfl) ?_
  refine lv_bipush (v := (10 : Int32)) hx hb d2_init_23 (by decide) ?_
  refine cx_newa C hH .int 0 (ty := .int) rfl rfl mA_0 (fun _ => rfl) rfl (N := 10) (by decide) (by decide) (by decide) (Nat.le_of_ble_eq_true rfl) (Nat.le_of_ble_eq_true rfl) d2_init_25 (fun a25 H hH => ?_)
  have hH : cx_H D B0 s (pre ++ [(q, .inr (2, [.int (0 : Int32), .int (0 : Int32), .ref a17, .null, .null])), (a17, .inl (cA 0, 10, .inl (fun _ => 0))), (a25, .inl (cA 0, 10, .inl (fun _ => 0)))]) _ _ := hH
  refine cx_put C hH (i := 0) (ci := 2) (j := 3) (N := 5) (fy := fy_2) (v := .ref a25) rfl rfl fw_2 fo_2 fn_2 (by decide) fl_2_22 rfl rfl rfl (Nat.le_of_ble_eq_true rfl) d2_init_27 (fun H locs hH => ?_)
  have hH : cx_H D B0 s (pre ++ [(q, .inr (2, [.int (0 : Int32), .int (0 : Int32), .ref a17, .ref a25, .null])), (a17, .inl (cA 0, 10, .inl (fun _ => 0))), (a25, .inl (cA 0, 10, .inl (fun _ => 0)))]) _ _ := hH
  refine lv_aload_n hx hb d2_init_30 rfl (lv_at hl 0 rfl) ?_
  refine lv_bipush (v := (10 : Int32)) hx hb d2_init_31 (by decide) ?_
  refine cx_newa C hH .int 0 (ty := .int) rfl rfl mA_0 (fun _ => rfl) rfl (N := 10) (by decide) (by decide) (by decide) (Nat.le_of_ble_eq_true rfl) (Nat.le_of_ble_eq_true rfl) d2_init_33 (fun a33 H hH => ?_)
  have hH : cx_H D B0 s (pre ++ [(q, .inr (2, [.int (0 : Int32), .int (0 : Int32), .ref a17, .ref a25, .null])), (a17, .inl (cA 0, 10, .inl (fun _ => 0))), (a25, .inl (cA 0, 10, .inl (fun _ => 0))), (a33, .inl (cA 0, 10, .inl (fun _ => 0)))]) _ _ := hH
  refine cx_put C hH (i := 0) (ci := 2) (j := 4) (N := 5) (fy := fy_2) (v := .ref a33) rfl rfl fw_2 fo_2 fn_2 (by decide) fl_2_25 rfl rfl rfl (Nat.le_of_ble_eq_true rfl) d2_init_35 (fun H locs hH => ?_)
  have hH : cx_H D B0 s (pre ++ [(q, .inr (2, [.int (0 : Int32), .int (0 : Int32), .ref a17, .ref a25, .ref a33])), (a17, .inl (cA 0, 10, .inl (fun _ => 0))), (a25, .inl (cA 0, 10, .inl (fun _ => 0))), (a33, .inl (cA 0, 10, .inl (fun _ => 0)))]) _ _ := hH
  exact cx_ret C (ce_sok aK aV B0) (a17, a25, a33) trivial hH d2_init_38
abbrev b3_init : ByteArray := prog_5_method_1_code
def y3_init : MethodName := ⟨cn_3, "<init>", "()V"⟩
theorem d3_init_0 : decode b3_init 0 = .ok (.aload_n 0, 1) := by decide +kernel
theorem d3_init_1 : decode b3_init 1 = .ok (.invokespecial 3, 3) := by decide +kernel
theorem d3_init_4 : decode b3_init 4 = .ok (.aload_n 0, 1) := by decide +kernel
theorem d3_init_5 : decode b3_init 5 = .ok (.bipush 10, 2) := by decide +kernel
theorem d3_init_7 : decode b3_init 7 = .ok (.newarray .int, 2) := by decide +kernel
theorem d3_init_9 : decode b3_init 9 = .ok (.putfield 9, 3) := by decide +kernel
theorem d3_init_12 : decode b3_init 12 = .ok (.aload_n 0, 1) := by decide +kernel
theorem d3_init_13 : decode b3_init 13 = .ok (.bipush 10, 2) := by decide +kernel
theorem d3_init_15 : decode b3_init 15 = .ok (.newarray .int, 2) := by decide +kernel
theorem d3_init_17 : decode b3_init 17 = .ok (.putfield 15, 3) := by decide +kernel
theorem d3_init_20 : decode b3_init 20 = .ok (.aload_n 0, 1) := by decide +kernel
theorem d3_init_21 : decode b3_init 21 = .ok (.bipush 10, 2) := by decide +kernel
theorem d3_init_23 : decode b3_init 23 = .ok (.newarray .int, 2) := by decide +kernel
theorem d3_init_25 : decode b3_init 25 = .ok (.putfield 18, 3) := by decide +kernel
theorem d3_init_28 : decode b3_init 28 = .ok (.aload_n 0, 1) := by decide +kernel
theorem d3_init_29 : decode b3_init 29 = .ok (.bipush 10, 2) := by decide +kernel
theorem d3_init_31 : decode b3_init 31 = .ok (.newarray .int, 2) := by decide +kernel
theorem d3_init_33 : decode b3_init 33 = .ok (.putfield 21, 3) := by decide +kernel
theorem d3_init_36 : decode b3_init 36 = .ok (.aload_n 0, 1) := by decide +kernel
theorem d3_init_37 : decode b3_init 37 = .ok (.bipush 10, 2) := by decide +kernel
theorem d3_init_39 : decode b3_init 39 = .ok (.newarray .int, 2) := by decide +kernel
theorem d3_init_41 : decode b3_init 41 = .ok (.putfield 24, 3) := by decide +kernel
theorem d3_init_44 : decode b3_init 44 = .ok (.aload_n 0, 1) := by decide +kernel
theorem d3_init_45 : decode b3_init 45 = .ok (.bipush 40, 2) := by decide +kernel
theorem d3_init_47 : decode b3_init 47 = .ok (.newarray .int, 2) := by decide +kernel
theorem d3_init_49 : decode b3_init 49 = .ok (.putfield 27, 3) := by decide +kernel
theorem d3_init_52 : decode b3_init 52 = .ok (.return_, 1) := by decide +kernel
def cz_3 (cA : Nat → ClassId) (q : Nat) (x : Nat × Nat × Nat × Nat × Nat × Nat) : va_W := [(q, .inr (3, [.ref x.1, .ref x.2.1, .ref x.2.2.1, .ref x.2.2.2.1, .ref x.2.2.2.2.1, .ref x.2.2.2.2.2])), (x.1, .inl (cA 0, 10, .inl (fun _ => 0))), (x.2.1, .inl (cA 0, 10, .inl (fun _ => 0))), (x.2.2.1, .inl (cA 0, 10, .inl (fun _ => 0))), (x.2.2.2.1, .inl (cA 0, 10, .inl (fun _ => 0))), (x.2.2.2.2.1, .inl (cA 0, 10, .inl (fun _ => 0))), (x.2.2.2.2.2, .inl (cA 0, 40, .inl (fun _ => 0)))]
theorem mo_3 : Cond.methodLink cn_3 3 Lib.objectInit ∈ ce_cm := ce_cm_of (List.mem_of_getElem? (i := 378) (by decide +kernel)) (by decide +kernel)
set_option maxRecDepth 20000 in
set_option maxHeartbeats 4000000 in
theorem ci_3 (l : Launch) (D : va_G) (cA : Nat → ClassId) (aK aV : Nat → Nat) (B0 : Nat) (pre : va_W) (q : Nat) : cx_Ct l D cA B0 (ce_St aK aV B0) y3_init b3_init 1 1 12 6 90 [.ref q] (pre ++ [(q, .inr (3, [.null, .null, .null, .null, .null, .null]))]) (fun (_ : Nat × Nat × Nat × Nat × Nat × Nat) => True) (fun x => pre ++ cz_3 cA q x) := by
  refine cx_enter (by decide) rfl rfl (Nat.le_of_ble_eq_true rfl) (fun p e0 s m below meth c ls C hH hl => ?_)
  have hl : lv_has ls 1 [(0, .ref q)] := hl
  have hx := C.1
  have hb := C.2.1
  refine lv_aload_n hx hb d3_init_0 rfl (lv_at hl 0 rfl) ?_
  refine cx_obj C mo_3 mI_obj mC_obj hl.1 d3_init_1 (Nat.le_of_ble_eq_true rfl) (Nat.le_of_ble_eq_true rfl) ?_
  refine lv_aload_n hx hb d3_init_4 rfl (lv_at hl 0 rfl) ?_
  refine lv_bipush (v := (10 : Int32)) hx hb d3_init_5 (by decide) ?_
  refine cx_newa C hH .int 0 (ty := .int) rfl rfl mA_0 (fun _ => rfl) rfl (N := 10) (by decide) (by decide) (by decide) (Nat.le_of_ble_eq_true rfl) (Nat.le_of_ble_eq_true rfl) d3_init_7 (fun a7 H hH => ?_)
  have hH : cx_H D B0 s (pre ++ [(q, .inr (3, [.null, .null, .null, .null, .null, .null])), (a7, .inl (cA 0, 10, .inl (fun _ => 0)))]) _ _ := hH
  refine cx_put C hH (i := 0) (ci := 3) (j := 0) (N := 6) (fy := fy_3) (v := .ref a7) rfl rfl fw_3 fo_3 fn_3 (by decide) fl_3_9 rfl rfl rfl (Nat.le_of_ble_eq_true rfl) d3_init_9 (fun H locs hH => ?_)
  have hH : cx_H D B0 s (pre ++ [(q, .inr (3, [.ref a7, .null, .null, .null, .null, .null])), (a7, .inl (cA 0, 10, .inl (fun _ => 0)))]) _ _ := hH
  refine lv_aload_n hx hb d3_init_12 rfl (lv_at hl 0 rfl) ?_
  refine lv_bipush (v := (10 : Int32)) hx hb d3_init_13 (by decide) ?_
  refine cx_newa C hH .int 0 (ty := .int) rfl rfl mA_0 (fun _ => rfl) rfl (N := 10) (by decide) (by decide) (by decide) (Nat.le_of_ble_eq_true rfl) (Nat.le_of_ble_eq_true rfl) d3_init_15 (fun a15 H hH => ?_)
  have hH : cx_H D B0 s (pre ++ [(q, .inr (3, [.ref a7, .null, .null, .null, .null, .null])), (a7, .inl (cA 0, 10, .inl (fun _ => 0))), (a15, .inl (cA 0, 10, .inl (fun _ => 0)))]) _ _ := hH
  refine cx_put C hH (i := 0) (ci := 3) (j := 1) (N := 6) (fy := fy_3) (v := .ref a15) rfl rfl fw_3 fo_3 fn_3 (by decide) fl_3_15 rfl rfl rfl (Nat.le_of_ble_eq_true rfl) d3_init_17 (fun H locs hH => ?_)
  have hH : cx_H D B0 s (pre ++ [(q, .inr (3, [.ref a7, .ref a15, .null, .null, .null, .null])), (a7, .inl (cA 0, 10, .inl (fun _ => 0))), (a15, .inl (cA 0, 10, .inl (fun _ => 0)))]) _ _ := hH
  refine lv_aload_n hx hb d3_init_20 rfl (lv_at hl 0 rfl) ?_
  refine lv_bipush (v := (10 : Int32)) hx hb d3_init_21 (by decide) ?_
  refine cx_newa C hH .int 0 (ty := .int) rfl rfl mA_0 (fun _ => rfl) rfl (N := 10) (by decide) (by decide) (by decide) (Nat.le_of_ble_eq_true rfl) (Nat.le_of_ble_eq_true rfl) d3_init_23 (fun a23 H hH => ?_)
  have hH : cx_H D B0 s (pre ++ [(q, .inr (3, [.ref a7, .ref a15, .null, .null, .null, .null])), (a7, .inl (cA 0, 10, .inl (fun _ => 0))), (a15, .inl (cA 0, 10, .inl (fun _ => 0))), (a23, .inl (cA 0, 10, .inl (fun _ => 0)))]) _ _ := hH
  refine cx_put C hH (i := 0) (ci := 3) (j := 2) (N := 6) (fy := fy_3) (v := .ref a23) rfl rfl fw_3 fo_3 fn_3 (by decide) fl_3_18 rfl rfl rfl (Nat.le_of_ble_eq_true rfl) d3_init_25 (fun H locs hH => ?_)
  have hH : cx_H D B0 s (pre ++ [(q, .inr (3, [.ref a7, .ref a15, .ref a23, .null, .null, .null])), (a7, .inl (cA 0, 10, .inl (fun _ => 0))), (a15, .inl (cA 0, 10, .inl (fun _ => 0))), (a23, .inl (cA 0, 10, .inl (fun _ => 0)))]) _ _ := hH
  refine lv_aload_n hx hb d3_init_28 rfl (lv_at hl 0 rfl) ?_
  refine lv_bipush (v := (10 : Int32)) hx hb d3_init_29 (by decide) ?_
  refine cx_newa C hH .int 0 (ty := .int) rfl rfl mA_0 (fun _ => rfl) rfl (N := 10) (by decide) (by decide) (by decide) (Nat.le_of_ble_eq_true rfl) (Nat.le_of_ble_eq_true rfl) d3_init_31 (fun a31 H hH => ?_)
  have hH : cx_H D B0 s (pre ++ [(q, .inr (3, [.ref a7, .ref a15, .ref a23, .null, .null, .null])), (a7, .inl (cA 0, 10, .inl (fun _ => 0))), (a15, .inl (cA 0, 10, .inl (fun _ => 0))), (a23, .inl (cA 0, 10, .inl (fun _ => 0))), (a31, .inl (cA 0, 10, .inl (fun _ => 0)))]) _ _ := hH
  refine cx_put C hH (i := 0) (ci := 3) (j := 3) (N := 6) (fy := fy_3) (v := .ref a31) rfl rfl fw_3 fo_3 fn_3 (by decide) fl_3_21 rfl rfl rfl (Nat.le_of_ble_eq_true rfl) d3_init_33 (fun H locs hH => ?_)
  have hH : cx_H D B0 s (pre ++ [(q, .inr (3, [.ref a7, .ref a15, .ref a23, .ref a31, .null, .null])), (a7, .inl (cA 0, 10, .inl (fun _ => 0))), (a15, .inl (cA 0, 10, .inl (fun _ => 0))), (a23, .inl (cA 0, 10, .inl (fun _ => 0))), (a31, .inl (cA 0, 10, .inl (fun _ => 0)))]) _ _ := hH
  refine lv_aload_n hx hb d3_init_36 rfl (lv_at hl 0 rfl) ?_
  refine lv_bipush (v := (10 : Int32)) hx hb d3_init_37 (by decide) ?_
  refine cx_newa C hH .int 0 (ty := .int) rfl rfl mA_0 (fun _ => rfl) rfl (N := 10) (by decide) (by decide) (by decide) (Nat.le_of_ble_eq_true rfl) (Nat.le_of_ble_eq_true rfl) d3_init_39 (fun a39 H hH => ?_)
  have hH : cx_H D B0 s (pre ++ [(q, .inr (3, [.ref a7, .ref a15, .ref a23, .ref a31, .null, .null])), (a7, .inl (cA 0, 10, .inl (fun _ => 0))), (a15, .inl (cA 0, 10, .inl (fun _ => 0))), (a23, .inl (cA 0, 10, .inl (fun _ => 0))), (a31, .inl (cA 0, 10, .inl (fun _ => 0))), (a39, .inl (cA 0, 10, .inl (fun _ => 0)))]) _ _ := hH
  refine cx_put C hH (i := 0) (ci := 3) (j := 4) (N := 6) (fy := fy_3) (v := .ref a39) rfl rfl fw_3 fo_3 fn_3 (by decide) fl_3_24 rfl rfl rfl (Nat.le_of_ble_eq_true rfl) d3_init_41 (fun H locs hH => ?_)
  have hH : cx_H D B0 s (pre ++ [(q, .inr (3, [.ref a7, .ref a15, .ref a23, .ref a31, .ref a39, .null])), (a7, .inl (cA 0, 10, .inl (fun _ => 0))), (a15, .inl (cA 0, 10, .inl (fun _ => 0))), (a23, .inl (cA 0, 10, .inl (fun _ => 0))), (a31, .inl (cA 0, 10, .inl (fun _ => 0))), (a39, .inl (cA 0, 10, .inl (fun _ => 0)))]) _ _ := hH
  refine lv_aload_n hx hb d3_init_44 rfl (lv_at hl 0 rfl) ?_
  refine lv_bipush (v := (40 : Int32)) hx hb d3_init_45 (by decide) ?_
  refine cx_newa C hH .int 0 (ty := .int) rfl rfl mA_0 (fun _ => rfl) rfl (N := 40) (by decide) (by decide) (by decide) (Nat.le_of_ble_eq_true rfl) (Nat.le_of_ble_eq_true rfl) d3_init_47 (fun a47 H hH => ?_)
  have hH : cx_H D B0 s (pre ++ [(q, .inr (3, [.ref a7, .ref a15, .ref a23, .ref a31, .ref a39, .null])), (a7, .inl (cA 0, 10, .inl (fun _ => 0))), (a15, .inl (cA 0, 10, .inl (fun _ => 0))), (a23, .inl (cA 0, 10, .inl (fun _ => 0))), (a31, .inl (cA 0, 10, .inl (fun _ => 0))), (a39, .inl (cA 0, 10, .inl (fun _ => 0))), (a47, .inl (cA 0, 40, .inl (fun _ => 0)))]) _ _ := hH
  refine cx_put C hH (i := 0) (ci := 3) (j := 5) (N := 6) (fy := fy_3) (v := .ref a47) rfl rfl fw_3 fo_3 fn_3 (by decide) fl_3_27 rfl rfl rfl (Nat.le_of_ble_eq_true rfl) d3_init_49 (fun H locs hH => ?_)
  have hH : cx_H D B0 s (pre ++ [(q, .inr (3, [.ref a7, .ref a15, .ref a23, .ref a31, .ref a39, .ref a47])), (a7, .inl (cA 0, 10, .inl (fun _ => 0))), (a15, .inl (cA 0, 10, .inl (fun _ => 0))), (a23, .inl (cA 0, 10, .inl (fun _ => 0))), (a31, .inl (cA 0, 10, .inl (fun _ => 0))), (a39, .inl (cA 0, 10, .inl (fun _ => 0))), (a47, .inl (cA 0, 40, .inl (fun _ => 0)))]) _ _ := hH
  exact cx_ret C (ce_sok aK aV B0) (a7, a15, a23, a31, a39, a47) trivial hH d3_init_52
abbrev b4_init : ByteArray := prog_6_method_1_code
def y4_init : MethodName := ⟨cn_4, "<init>", "()V"⟩
theorem d4_init_0 : decode b4_init 0 = .ok (.aload_n 0, 1) := by decide +kernel
theorem d4_init_1 : decode b4_init 1 = .ok (.invokespecial 3, 3) := by decide +kernel
theorem d4_init_4 : decode b4_init 4 = .ok (.aload_n 0, 1) := by decide +kernel
theorem d4_init_5 : decode b4_init 5 = .ok (.bipush 10, 2) := by decide +kernel
theorem d4_init_7 : decode b4_init 7 = .ok (.newarray .int, 2) := by decide +kernel
theorem d4_init_9 : decode b4_init 9 = .ok (.putfield 9, 3) := by decide +kernel
theorem d4_init_12 : decode b4_init 12 = .ok (.aload_n 0, 1) := by decide +kernel
theorem d4_init_13 : decode b4_init 13 = .ok (.bipush 100, 2) := by decide +kernel
theorem d4_init_15 : decode b4_init 15 = .ok (.newarray .int, 2) := by decide +kernel
theorem d4_init_17 : decode b4_init 17 = .ok (.putfield 15, 3) := by decide +kernel
theorem d4_init_20 : decode b4_init 20 = .ok (.return_, 1) := by decide +kernel
def cz_4 (cA : Nat → ClassId) (q : Nat) (x : Nat × Nat) : va_W := [(q, .inr (4, [.ref x.1, .ref x.2])), (x.1, .inl (cA 0, 10, .inl (fun _ => 0))), (x.2, .inl (cA 0, 100, .inl (fun _ => 0)))]
theorem mo_4 : Cond.methodLink cn_4 3 Lib.objectInit ∈ ce_cm := ce_cm_of (List.mem_of_getElem? (i := 407) (by decide +kernel)) (by decide +kernel)
set_option maxRecDepth 20000 in
set_option maxHeartbeats 4000000 in
theorem ci_4 (l : Launch) (D : va_G) (cA : Nat → ClassId) (aK aV : Nat → Nat) (B0 : Nat) (pre : va_W) (q : Nat) : cx_Ct l D cA B0 (ce_St aK aV B0) y4_init b4_init 1 1 12 2 110 [.ref q] (pre ++ [(q, .inr (4, [.null, .null]))]) (fun (_ : Nat × Nat) => True) (fun x => pre ++ cz_4 cA q x) := by
  refine cx_enter (by decide) rfl rfl (Nat.le_of_ble_eq_true rfl) (fun p e0 s m below meth c ls C hH hl => ?_)
  have hl : lv_has ls 1 [(0, .ref q)] := hl
  have hx := C.1
  have hb := C.2.1
  refine lv_aload_n hx hb d4_init_0 rfl (lv_at hl 0 rfl) ?_
  refine cx_obj C mo_4 mI_obj mC_obj hl.1 d4_init_1 (Nat.le_of_ble_eq_true rfl) (Nat.le_of_ble_eq_true rfl) ?_
  refine lv_aload_n hx hb d4_init_4 rfl (lv_at hl 0 rfl) ?_
  refine lv_bipush (v := (10 : Int32)) hx hb d4_init_5 (by decide) ?_
  refine cx_newa C hH .int 0 (ty := .int) rfl rfl mA_0 (fun _ => rfl) rfl (N := 10) (by decide) (by decide) (by decide) (Nat.le_of_ble_eq_true rfl) (Nat.le_of_ble_eq_true rfl) d4_init_7 (fun a7 H hH => ?_)
  have hH : cx_H D B0 s (pre ++ [(q, .inr (4, [.null, .null])), (a7, .inl (cA 0, 10, .inl (fun _ => 0)))]) _ _ := hH
  refine cx_put C hH (i := 0) (ci := 4) (j := 0) (N := 2) (fy := fy_4) (v := .ref a7) rfl rfl fw_4 fo_4 fn_4 (by decide) fl_4_9 rfl rfl rfl (Nat.le_of_ble_eq_true rfl) d4_init_9 (fun H locs hH => ?_)
  have hH : cx_H D B0 s (pre ++ [(q, .inr (4, [.ref a7, .null])), (a7, .inl (cA 0, 10, .inl (fun _ => 0)))]) _ _ := hH
  refine lv_aload_n hx hb d4_init_12 rfl (lv_at hl 0 rfl) ?_
  refine lv_bipush (v := (100 : Int32)) hx hb d4_init_13 (by decide) ?_
  refine cx_newa C hH .int 0 (ty := .int) rfl rfl mA_0 (fun _ => rfl) rfl (N := 100) (by decide) (by decide) (by decide) (Nat.le_of_ble_eq_true rfl) (Nat.le_of_ble_eq_true rfl) d4_init_15 (fun a15 H hH => ?_)
  have hH : cx_H D B0 s (pre ++ [(q, .inr (4, [.ref a7, .null])), (a7, .inl (cA 0, 10, .inl (fun _ => 0))), (a15, .inl (cA 0, 100, .inl (fun _ => 0)))]) _ _ := hH
  refine cx_put C hH (i := 0) (ci := 4) (j := 1) (N := 2) (fy := fy_4) (v := .ref a15) rfl rfl fw_4 fo_4 fn_4 (by decide) fl_4_15 rfl rfl rfl (Nat.le_of_ble_eq_true rfl) d4_init_17 (fun H locs hH => ?_)
  have hH : cx_H D B0 s (pre ++ [(q, .inr (4, [.ref a7, .ref a15])), (a7, .inl (cA 0, 10, .inl (fun _ => 0))), (a15, .inl (cA 0, 100, .inl (fun _ => 0)))]) _ _ := hH
  exact cx_ret C (ce_sok aK aV B0) (a7, a15) trivial hH d4_init_20
abbrev b1_init : ByteArray := prog_3_method_1_code
def y1_init : MethodName := ⟨cn_1, "<init>", "()V"⟩
theorem d1_init_0 : decode b1_init 0 = .ok (.aload_n 0, 1) := by decide +kernel
theorem d1_init_1 : decode b1_init 1 = .ok (.invokespecial 3, 3) := by decide +kernel
theorem d1_init_4 : decode b1_init 4 = .ok (.aload_n 0, 1) := by decide +kernel
theorem d1_init_5 : decode b1_init 5 = .ok (.iconst (-1), 1) := by decide +kernel
theorem d1_init_6 : decode b1_init 6 = .ok (.putfield 9, 3) := by decide +kernel
theorem d1_init_9 : decode b1_init 9 = .ok (.aload_n 0, 1) := by decide +kernel
theorem d1_init_10 : decode b1_init 10 = .ok (.iconst 0, 1) := by decide +kernel
theorem d1_init_11 : decode b1_init 11 = .ok (.putfield 15, 3) := by decide +kernel
theorem d1_init_14 : decode b1_init 14 = .ok (.aload_n 0, 1) := by decide +kernel
theorem d1_init_15 : decode b1_init 15 = .ok (.bipush 10, 2) := by decide +kernel
theorem d1_init_17 : decode b1_init 17 = .ok (.newarray .int, 2) := by decide +kernel
theorem d1_init_19 : decode b1_init 19 = .ok (.putfield 18, 3) := by decide +kernel
theorem d1_init_22 : decode b1_init 22 = .ok (.aload_n 0, 1) := by decide +kernel
theorem d1_init_23 : decode b1_init 23 = .ok (.bipush 10, 2) := by decide +kernel
theorem d1_init_25 : decode b1_init 25 = .ok (.newarray .int, 2) := by decide +kernel
theorem d1_init_27 : decode b1_init 27 = .ok (.putfield 22, 3) := by decide +kernel
theorem d1_init_30 : decode b1_init 30 = .ok (.return_, 1) := by decide +kernel
def cz_1 (cA : Nat → ClassId) (q : Nat) (x : Nat × Nat) : va_W := [(q, .inr (1, [.int (-1 : Int32), .int (0 : Int32), .ref x.1, .ref x.2])), (x.1, .inl (cA 0, 10, .inl (fun _ => 0))), (x.2, .inl (cA 0, 10, .inl (fun _ => 0)))]
theorem mo_1 : Cond.methodLink cn_1 3 Lib.objectInit ∈ ce_cm := ce_cm_of (List.mem_of_getElem? (i := 421) (by decide +kernel)) (by decide +kernel)
set_option maxRecDepth 20000 in
set_option maxHeartbeats 4000000 in
theorem ci_1 (l : Launch) (D : va_G) (cA : Nat → ClassId) (aK aV : Nat → Nat) (B0 : Nat) (pre : va_W) (q : Nat) : cx_Ct l D cA B0 (ce_St aK aV B0) y1_init b1_init 1 1 12 2 20 [.ref q] (pre ++ [(q, .inr (1, [.int 0, .int 0, .null, .null]))]) (fun (_ : Nat × Nat) => True) (fun x => pre ++ cz_1 cA q x) := by
  refine cx_enter (by decide) rfl rfl (Nat.le_of_ble_eq_true rfl) (fun p e0 s m below meth c ls C hH hl => ?_)
  have hl : lv_has ls 1 [(0, .ref q)] := hl
  have hx := C.1
  have hb := C.2.1
  refine lv_aload_n hx hb d1_init_0 rfl (lv_at hl 0 rfl) ?_
  refine cx_obj C mo_1 mI_obj mC_obj hl.1 d1_init_1 (Nat.le_of_ble_eq_true rfl) (Nat.le_of_ble_eq_true rfl) ?_
  refine lv_aload_n hx hb d1_init_4 rfl (lv_at hl 0 rfl) ?_
  refine lv_iconst (v := (-1 : Int32)) hx hb d1_init_5 (by decide) ?_
  refine cx_put C hH (i := 0) (ci := 1) (j := 0) (N := 4) (fy := fy_1) (v := .int (-1 : Int32)) rfl rfl fw_1 fo_1 fn_1 (by decide) fl_1_9 rfl rfl rfl (Nat.le_of_ble_eq_true rfl) d1_init_6 (fun H locs hH => ?_)
  have hH : cx_H D B0 s (pre ++ [(q, .inr (1, [.int (-1 : Int32), .int 0, .null, .null]))]) _ _ := hH
  refine lv_aload_n hx hb d1_init_9 rfl (lv_at hl 0 rfl) ?_
  refine lv_iconst (v := (0 : Int32)) hx hb d1_init_10 (by decide) ?_
  refine cx_put C hH (i := 0) (ci := 1) (j := 1) (N := 4) (fy := fy_1) (v := .int (0 : Int32)) rfl rfl fw_1 fo_1 fn_1 (by decide) fl_1_15 rfl rfl rfl (Nat.le_of_ble_eq_true rfl) d1_init_11 (fun H locs hH => ?_)
  have hH : cx_H D B0 s (pre ++ [(q, .inr (1, [.int (-1 : Int32), .int (0 : Int32), .null, .null]))]) _ _ := hH
  refine lv_aload_n hx hb d1_init_14 rfl (lv_at hl 0 rfl) ?_
  refine lv_bipush (v := (10 : Int32)) hx hb d1_init_15 (by decide) ?_
  refine cx_newa C hH .int 0 (ty := .int) rfl rfl mA_0 (fun _ => rfl) rfl (N := 10) (by decide) (by decide) (by decide) (Nat.le_of_ble_eq_true rfl) (Nat.le_of_ble_eq_true rfl) d1_init_17 (fun a17 H hH => ?_)
  have hH : cx_H D B0 s (pre ++ [(q, .inr (1, [.int (-1 : Int32), .int (0 : Int32), .null, .null])), (a17, .inl (cA 0, 10, .inl (fun _ => 0)))]) _ _ := hH
  refine cx_put C hH (i := 0) (ci := 1) (j := 2) (N := 4) (fy := fy_1) (v := .ref a17) rfl rfl fw_1 fo_1 fn_1 (by decide) fl_1_18 rfl rfl rfl (Nat.le_of_ble_eq_true rfl) d1_init_19 (fun H locs hH => ?_)
  have hH : cx_H D B0 s (pre ++ [(q, .inr (1, [.int (-1 : Int32), .int (0 : Int32), .ref a17, .null])), (a17, .inl (cA 0, 10, .inl (fun _ => 0)))]) _ _ := hH
  refine lv_aload_n hx hb d1_init_22 rfl (lv_at hl 0 rfl) ?_
  refine lv_bipush (v := (10 : Int32)) hx hb d1_init_23 (by decide) ?_
  refine cx_newa C hH .int 0 (ty := .int) rfl rfl mA_0 (fun _ => rfl) rfl (N := 10) (by decide) (by decide) (by decide) (Nat.le_of_ble_eq_true rfl) (Nat.le_of_ble_eq_true rfl) d1_init_25 (fun a25 H hH => ?_)
  have hH : cx_H D B0 s (pre ++ [(q, .inr (1, [.int (-1 : Int32), .int (0 : Int32), .ref a17, .null])), (a17, .inl (cA 0, 10, .inl (fun _ => 0))), (a25, .inl (cA 0, 10, .inl (fun _ => 0)))]) _ _ := hH
  refine cx_put C hH (i := 0) (ci := 1) (j := 3) (N := 4) (fy := fy_1) (v := .ref a25) rfl rfl fw_1 fo_1 fn_1 (by decide) fl_1_22 rfl rfl rfl (Nat.le_of_ble_eq_true rfl) d1_init_27 (fun H locs hH => ?_)
  have hH : cx_H D B0 s (pre ++ [(q, .inr (1, [.int (-1 : Int32), .int (0 : Int32), .ref a17, .ref a25])), (a17, .inl (cA 0, 10, .inl (fun _ => 0))), (a25, .inl (cA 0, 10, .inl (fun _ => 0)))]) _ _ := hH
  exact cx_ret C (ce_sok aK aV B0) (a17, a25) trivial hH d1_init_30
