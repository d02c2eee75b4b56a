-- C2: functions and contracts, written by wip/whole/gen (mgen.py, walk.py, walk2.py) out of the bytecode
section C2
variable {p : Program} {l : Launch} {e0 : Env} {R : Room} {s : State} {m : MethodId} {args : Array Value} {below : List Frame} {meth : Method} {c : Code} {H : Heap} {locs : List Loc} {cells slots : Nat} {Q : State → Prop}
variable {cc : ByteArray} {pc nL : Nat} {ret : Option FieldType} {ls : Array Slot} {rest : List Value} {D : va_G} {ad : Nat → Nat} {cA : Nat → ClassId} {B0 : Nat} {X : va_W} {h : Hp} {aK aV : Nat → Nat}
abbrev b7_fill_53178 : ByteArray := prog_19_method_103_code
def y7_fill_53178 : MethodName := ⟨"java/util/Arrays", "fill", "([II)V"⟩
theorem d7_fill_53178_0 : decode b7_fill_53178 0 = .ok (.iconst 0, 1) := by decide +kernel
theorem d7_fill_53178_1 : decode b7_fill_53178 1 = .ok (.istore_n 2, 1) := by decide +kernel
theorem d7_fill_53178_2 : decode b7_fill_53178 2 = .ok (.aload_n 0, 1) := by decide +kernel
theorem d7_fill_53178_3 : decode b7_fill_53178 3 = .ok (.arraylength, 1) := by decide +kernel
theorem d7_fill_53178_4 : decode b7_fill_53178 4 = .ok (.istore_n 3, 1) := by decide +kernel
theorem d7_fill_53178_5 : decode b7_fill_53178 5 = .ok (.iload_n 2, 1) := by decide +kernel
theorem d7_fill_53178_6 : decode b7_fill_53178 6 = .ok (.iload_n 3, 1) := by decide +kernel
theorem d7_fill_53178_7 : decode b7_fill_53178 7 = .ok (.if_icmp .ge 13, 3) := by decide +kernel
theorem d7_fill_53178_10 : decode b7_fill_53178 10 = .ok (.aload_n 0, 1) := by decide +kernel
theorem d7_fill_53178_11 : decode b7_fill_53178 11 = .ok (.iload_n 2, 1) := by decide +kernel
theorem d7_fill_53178_12 : decode b7_fill_53178 12 = .ok (.iload_n 1, 1) := by decide +kernel
theorem d7_fill_53178_13 : decode b7_fill_53178 13 = .ok (.iastore, 1) := by decide +kernel
theorem d7_fill_53178_14 : decode b7_fill_53178 14 = .ok (.iinc 2 1, 3) := by decide +kernel
theorem d7_fill_53178_17 : decode b7_fill_53178 17 = .ok (.goto (-12), 3) := by decide +kernel
theorem d7_fill_53178_20 : decode b7_fill_53178 20 = .ok (.return_, 1) := by decide +kernel
def f7_fill_53178_b5 (F : Nat) (k0 : Nat) (n0 : Nat) (x1 : Int32) (x3 : Int32) (x2 : Int32) (h : Hp) : Option ((Int32 × Hp) ⊕ (Hp)) :=
  if x3 ≤ x2 then
    some (.inr h)
  else
    if ce_in x2 n0 = true then
      ce_nm (hp_up h k0 (x2).toNatClampNeg x1) (fun h_13 =>
        some (.inl (x2 + (1 : Int32), h_13)))
    else none
set_option maxRecDepth 20000 in
theorem l7_fill_53178_5 (C : ce_Cx p s m args c meth b7_fill_53178 4 none "java/util/Arrays" D ad cA B0 (ce_St aK aV B0)) (F : Nat) (k0 : Nat) (n0 : Nat) (x1 : Int32) (x3 : Int32) (hk0 : k0 < 96 ∧ ce_lay k0 = .inl (0, n0)) (r : Hp) (g : (Hp) → Option (Hp)) (hx : ∀  (h : Hp) (H : Heap) (locs : List Loc) (ls : Array Slot), ce_H D ad cA B0 [] s h H locs → lv_has ls 4 [] → g h = some r → W p l e0 { frames := 0, cells := 0, slots := 0, locals := 0 } s m args below meth c H locs 0 0 (MQ below (ce_Q D ad cA B0 (ce_St aK aV B0) none r) args s 0 0 (fun q => B0 ≤ q)) (F0 m 20 ls [])) : ∀ (n : Nat) (x2 : Int32) (h : Hp) (H : Heap) (locs : List Loc) (ls : Array Slot), ce_H D ad cA B0 [] s h H locs → lv_has ls 4 [(0, .ref (ad k0)), (1, .int x1), (2, .int x2), (3, .int x3)] → Option.bind (ce_it (fun (st : Int32 × Hp) => f7_fill_53178_b5 F k0 n0 x1 x3 st.1 st.2) n (x2, h)) g = some r → W p l e0 { frames := 0, cells := 0, slots := 0, locals := 0 } s m args below meth c H locs 0 0 (MQ below (ce_Q D ad cA B0 (ce_St aK aV B0) none r) args s 0 0 (fun q => B0 ≤ q)) (F0 m 5 ls []) := by
  intro n
  induction n with
  | zero =>
    intro x2 h H locs ls hH hl e
    exact absurd e (fun z => by cases z)
  | succ n ih =>
    intro x2 h H locs ls hH hl e
    have hx9 := C.1
    have hb := C.2.1
    have e : Option.bind (f7_fill_53178_b5 F k0 n0 x1 x3 x2 h) _ = some r := ce_it_bd e
    unfold f7_fill_53178_b5 at e
    refine lv_iload_n hx9 hb d7_fill_53178_5 rfl (lv_at hl 2 rfl) ?_
    refine lv_iload_n hx9 hb d7_fill_53178_6 rfl (lv_at hl 3 rfl) ?_
    refine lv_icmp_ge (tgt := 20) hx9 hb d7_fill_53178_7 (by decide) (fun hc7 => ?_) (fun hc7 => ?_)
    · have e := ce_if1 e hc7
      exact hx  h _ _ _ hH (lv_sub hl [] rfl) e
    · have e := ce_if0 e hc7
      refine lv_aload_n hx9 hb d7_fill_53178_10 rfl (lv_at hl 0 rfl) ?_
      refine lv_iload_n hx9 hb d7_fill_53178_11 rfl (lv_at hl 2 rfl) ?_
      refine lv_iload_n hx9 hb d7_fill_53178_12 rfl (lv_at hl 1 rfl) ?_
      obtain ⟨hi13, e⟩ := ce_gd e
      refine ce_iast C hH hk0.1 hk0.2 (ce_in_vp hi13) d7_fill_53178_13 (fun H locs hH => ?_)
      obtain ⟨h_13, eh_13, e⟩ := ce_nmE e
      rw [← eh_13] at hH
      refine lv_iinc (v := x2 + (1 : Int32)) (lv' := [(2, .int (x2 + (1 : Int32))), (0, .ref (ad k0)), (1, .int x1), (3, .int x3)]) hx9 hb d7_fill_53178_14 hl (k := 2) rfl rfl (by decide) rfl (fun ls hl => ?_)
      refine lv_goto (tgt := 5) hx9 hb d7_fill_53178_17 (by decide) ?_
      exact ih (x2 + (1 : Int32)) h_13 _ _ _ hH (lv_sub hl [1, 2, 0, 3] rfl) e
def f7_fill_53178 (F : Nat) (k0 : Nat) (n0 : Nat) (x1 : Int32) (h : Hp) : Option (Hp) :=
  Option.bind (ce_it (fun (st : Int32 × Hp) => f7_fill_53178_b5 F k0 n0 x1 (nI n0) st.1 st.2) F ((0 : Int32), h)) (fun o5 =>
    some o5)
set_option maxRecDepth 20000 in
theorem c7_fill_53178 (l : Launch) (D : va_G) (ad : Nat → Nat) (cA : Nat → ClassId) (aK aV : Nat → Nat) (B0 : Nat) (hA : ce_Ad ad B0) (F : Nat) (k0 : Nat) (n0 : Nat) (x1 : Int32) (hk0 : k0 < 96 ∧ ce_lay k0 = .inl (0, n0)) (h : Hp) (r : Hp) (e : f7_fill_53178 F k0 n0 x1 h = some r) : ce_Ct l D ad cA B0 (ce_St aK aV B0) y7_fill_53178 b7_fill_53178 4 none 0 0 0 0 [.ref (ad k0), .int x1] h none r := by
  refine ce_enter hA (by decide) rfl (Nat.le_of_ble_eq_true rfl) (fun p e0 s m below meth c ls C hH hl => ?_)
  have hl : lv_has ls 4 [(0, .ref (ad k0)), (1, .int x1)] := hl
  have hx := C.1
  have hb := C.2.1
  have e : Option.bind _ some = some r := (congrArg (fun z => Option.bind z some) e).trans rfl
  unfold f7_fill_53178 at e
  refine lv_iconst (v := (0 : Int32)) hx hb d7_fill_53178_0 (by decide) ?_
  refine lv_istore_n (lv' := [(2, .int (0 : Int32)), (0, .ref (ad k0)), (1, .int x1)]) hx hb d7_fill_53178_1 rfl hl (by decide) rfl (fun ls hl => ?_)
  refine lv_aload_n hx hb d7_fill_53178_2 rfl (lv_at hl 1 rfl) ?_
  refine ce_alen C hH hk0.1 hk0.2 d7_fill_53178_3 ?_
  refine lv_istore_n (lv' := [(3, .int (nI n0)), (2, .int (0 : Int32)), (0, .ref (ad k0)), (1, .int x1)]) hx hb d7_fill_53178_4 rfl hl (by decide) rfl (fun ls hl => ?_)
  refine l7_fill_53178_5 C F k0 n0 x1 (nI n0) hk0 r _ (fun  h_5 H locs ls hH hl e => ?_) F (0 : Int32) h _ _ _ hH (lv_sub hl [2, 3, 1, 0] rfl) (ce_as e)
  try dsimp only at e
  exact ce_vret C (ce_sok aK aV B0) hH (Option.some.inj e) d7_fill_53178_20
abbrev b5_clear : ByteArray := prog_7_method_2_code
def y5_clear : MethodName := ⟨cn_5, "clear", "()V"⟩
theorem d5_clear_0 : decode b5_clear 0 = .ok (.aload_n 0, 1) := by decide +kernel
theorem d5_clear_1 : decode b5_clear 1 = .ok (.iconst 0, 1) := by decide +kernel
theorem d5_clear_2 : decode b5_clear 2 = .ok (.putfield 9, 3) := by decide +kernel
theorem d5_clear_5 : decode b5_clear 5 = .ok (.aload_n 0, 1) := by decide +kernel
theorem d5_clear_6 : decode b5_clear 6 = .ok (.iconst 0, 1) := by decide +kernel
theorem d5_clear_7 : decode b5_clear 7 = .ok (.putfield 15, 3) := by decide +kernel
theorem d5_clear_10 : decode b5_clear 10 = .ok (.aload_n 0, 1) := by decide +kernel
theorem d5_clear_11 : decode b5_clear 11 = .ok (.iconst 0, 1) := by decide +kernel
theorem d5_clear_12 : decode b5_clear 12 = .ok (.putfield 18, 3) := by decide +kernel
theorem d5_clear_15 : decode b5_clear 15 = .ok (.aload_n 0, 1) := by decide +kernel
theorem d5_clear_16 : decode b5_clear 16 = .ok (.iconst 0, 1) := by decide +kernel
theorem d5_clear_17 : decode b5_clear 17 = .ok (.putfield 21, 3) := by decide +kernel
theorem d5_clear_20 : decode b5_clear 20 = .ok (.aload_n 0, 1) := by decide +kernel
theorem d5_clear_21 : decode b5_clear 21 = .ok (.iconst 0, 1) := by decide +kernel
theorem d5_clear_22 : decode b5_clear 22 = .ok (.putfield 24, 3) := by decide +kernel
theorem d5_clear_25 : decode b5_clear 25 = .ok (.aload_n 0, 1) := by decide +kernel
theorem d5_clear_26 : decode b5_clear 26 = .ok (.getfield 41, 3) := by decide +kernel
theorem d5_clear_29 : decode b5_clear 29 = .ok (.iconst (-1), 1) := by decide +kernel
theorem d5_clear_30 : decode b5_clear 30 = .ok (.invokestatic 47, 3) := by decide +kernel
theorem d5_clear_33 : decode b5_clear 33 = .ok (.return_, 1) := by decide +kernel
theorem fl_5_9 : Cond.fieldLink cn_5 9 (ft_5 0).1 (ft_5 0).2.1 (ft_5 0).2.2.1 ∈ ce_cm := ce_cm_of (List.mem_of_getElem? (i := 192) (by decide +kernel)) (by decide +kernel)
theorem gf_5_9 (C : ce_Cx p s m args c meth cc nL ret cn_5 D ad cA B0 (ce_St aK aV B0)) (hH : ce_H D ad cA B0 X s h H locs) {k : Nat} (hk : ce_isNet k) (hdg : decode cc pc = .ok (.getfield 9, 3)) (kk : W p l e0 R s m args below meth c H locs cells slots Q (F0 m (pc + 3) ls (.int (h k 0) :: rest))) : W p l e0 R s m args below meth c H locs cells slots Q (F0 m pc ls (.ref (ad k) :: rest)) := by
  rcases hk with rfl | rfl
  · exact ce_get C hH (k := 7) (ci := 5) (j := 0) (N := 11) (sj := none) (by decide) rfl rfl fw_5 (by decide) fl_5_9 rfl hdg kk
  · exact ce_get C hH (k := 14) (ci := 5) (j := 0) (N := 11) (sj := none) (by decide) rfl rfl fw_5 (by decide) fl_5_9 rfl hdg kk
theorem pf_5_9 (C : ce_Cx p s m args c meth cc nL ret cn_5 D ad cA B0 (ce_St aK aV B0)) (hH : ce_H D ad cA B0 X s h H locs) {k : Nat} (hk : ce_isNet k) {x : Int32} (hdg : decode cc pc = .ok (.putfield 9, 3)) (kk : ∀ (H1 : Heap) (locs1 : List Loc), ce_H D ad cA B0 X s (hp_up h k 0 x) H1 locs1 → W p l e0 R s m args below meth c H1 locs1 cells slots Q (F0 m (pc + 3) ls rest)) : W p l e0 R s m args below meth c H locs cells slots Q (F0 m pc ls (.int x :: .ref (ad k) :: rest)) := by
  rcases hk with rfl | rfl
  · exact ce_put C hH (k := 7) (ci := 5) (j := 0) (N := 11) (fy := fy_5) (sj := none) x (by decide) rfl rfl fw_5 fo_5 fn_5 (by decide) fl_5_9 rfl rfl (v := .int x) (by simp [ce_slot, upd]) rfl rfl hdg kk
  · exact ce_put C hH (k := 14) (ci := 5) (j := 0) (N := 11) (fy := fy_5) (sj := none) x (by decide) rfl rfl fw_5 fo_5 fn_5 (by decide) fl_5_9 rfl rfl (v := .int x) (by simp [ce_slot, upd]) rfl rfl hdg kk
theorem fl_5_15 : Cond.fieldLink cn_5 15 (ft_5 1).1 (ft_5 1).2.1 (ft_5 1).2.2.1 ∈ ce_cm := ce_cm_of (List.mem_of_getElem? (i := 195) (by decide +kernel)) (by decide +kernel)
theorem gf_5_15 (C : ce_Cx p s m args c meth cc nL ret cn_5 D ad cA B0 (ce_St aK aV B0)) (hH : ce_H D ad cA B0 X s h H locs) {k : Nat} (hk : ce_isNet k) (hdg : decode cc pc = .ok (.getfield 15, 3)) (kk : W p l e0 R s m args below meth c H locs cells slots Q (F0 m (pc + 3) ls (.int (h k 1) :: rest))) : W p l e0 R s m args below meth c H locs cells slots Q (F0 m pc ls (.ref (ad k) :: rest)) := by
  rcases hk with rfl | rfl
  · exact ce_get C hH (k := 7) (ci := 5) (j := 1) (N := 11) (sj := none) (by decide) rfl rfl fw_5 (by decide) fl_5_15 rfl hdg kk
  · exact ce_get C hH (k := 14) (ci := 5) (j := 1) (N := 11) (sj := none) (by decide) rfl rfl fw_5 (by decide) fl_5_15 rfl hdg kk
theorem pf_5_15 (C : ce_Cx p s m args c meth cc nL ret cn_5 D ad cA B0 (ce_St aK aV B0)) (hH : ce_H D ad cA B0 X s h H locs) {k : Nat} (hk : ce_isNet k) {x : Int32} (hdg : decode cc pc = .ok (.putfield 15, 3)) (kk : ∀ (H1 : Heap) (locs1 : List Loc), ce_H D ad cA B0 X s (hp_up h k 1 x) H1 locs1 → W p l e0 R s m args below meth c H1 locs1 cells slots Q (F0 m (pc + 3) ls rest)) : W p l e0 R s m args below meth c H locs cells slots Q (F0 m pc ls (.int x :: .ref (ad k) :: rest)) := by
  rcases hk with rfl | rfl
  · exact ce_put C hH (k := 7) (ci := 5) (j := 1) (N := 11) (fy := fy_5) (sj := none) x (by decide) rfl rfl fw_5 fo_5 fn_5 (by decide) fl_5_15 rfl rfl (v := .int x) (by simp [ce_slot, upd]) rfl rfl hdg kk
  · exact ce_put C hH (k := 14) (ci := 5) (j := 1) (N := 11) (fy := fy_5) (sj := none) x (by decide) rfl rfl fw_5 fo_5 fn_5 (by decide) fl_5_15 rfl rfl (v := .int x) (by simp [ce_slot, upd]) rfl rfl hdg kk
theorem fl_5_18 : Cond.fieldLink cn_5 18 (ft_5 2).1 (ft_5 2).2.1 (ft_5 2).2.2.1 ∈ ce_cm := ce_cm_of (List.mem_of_getElem? (i := 199) (by decide +kernel)) (by decide +kernel)
theorem gf_5_18 (C : ce_Cx p s m args c meth cc nL ret cn_5 D ad cA B0 (ce_St aK aV B0)) (hH : ce_H D ad cA B0 X s h H locs) {k : Nat} (hk : ce_isNet k) (hdg : decode cc pc = .ok (.getfield 18, 3)) (kk : W p l e0 R s m args below meth c H locs cells slots Q (F0 m (pc + 3) ls (.int (h k 2) :: rest))) : W p l e0 R s m args below meth c H locs cells slots Q (F0 m pc ls (.ref (ad k) :: rest)) := by
  rcases hk with rfl | rfl
  · exact ce_get C hH (k := 7) (ci := 5) (j := 2) (N := 11) (sj := none) (by decide) rfl rfl fw_5 (by decide) fl_5_18 rfl hdg kk
  · exact ce_get C hH (k := 14) (ci := 5) (j := 2) (N := 11) (sj := none) (by decide) rfl rfl fw_5 (by decide) fl_5_18 rfl hdg kk
theorem pf_5_18 (C : ce_Cx p s m args c meth cc nL ret cn_5 D ad cA B0 (ce_St aK aV B0)) (hH : ce_H D ad cA B0 X s h H locs) {k : Nat} (hk : ce_isNet k) {x : Int32} (hdg : decode cc pc = .ok (.putfield 18, 3)) (kk : ∀ (H1 : Heap) (locs1 : List Loc), ce_H D ad cA B0 X s (hp_up h k 2 x) H1 locs1 → W p l e0 R s m args below meth c H1 locs1 cells slots Q (F0 m (pc + 3) ls rest)) : W p l e0 R s m args below meth c H locs cells slots Q (F0 m pc ls (.int x :: .ref (ad k) :: rest)) := by
  rcases hk with rfl | rfl
  · exact ce_put C hH (k := 7) (ci := 5) (j := 2) (N := 11) (fy := fy_5) (sj := none) x (by decide) rfl rfl fw_5 fo_5 fn_5 (by decide) fl_5_18 rfl rfl (v := .int x) (by simp [ce_slot, upd]) rfl rfl hdg kk
  · exact ce_put C hH (k := 14) (ci := 5) (j := 2) (N := 11) (fy := fy_5) (sj := none) x (by decide) rfl rfl fw_5 fo_5 fn_5 (by decide) fl_5_18 rfl rfl (v := .int x) (by simp [ce_slot, upd]) rfl rfl hdg kk
theorem mc7_fill_53178 : Cond.code y7_fill_53178 b7_fill_53178 4 none ∈ ce_cm := ce_cm_of (List.mem_of_getElem? (i := 191) (by decide +kernel)) (by decide +kernel)
theorem ml_5_47 : Cond.methodLink cn_5 47 y7_fill_53178 ∈ ce_cm := ce_cm_of (List.mem_of_getElem? (i := 189) (by decide +kernel)) (by decide +kernel)
theorem mt7_fill_53178 : Cond.static y7_fill_53178 ∈ ce_cm := ce_cm_of (List.mem_of_getElem? (i := 190) (by decide +kernel)) (by decide +kernel)
theorem mI_A : Cond.initialized "java/util/Arrays" ∈ ce_cm := ce_cm_of (List.mem_of_getElem? (i := 95) (by decide +kernel)) (by decide +kernel)
def f5_clear (F : Nat) (k0 : Nat) (h : Hp) : Option (Hp) :=
  ce_nm (hp_up h k0 0 (0 : Int32)) (fun h_2 =>
    ce_nm (hp_up h_2 k0 1 (0 : Int32)) (fun h_7 =>
      ce_nm (hp_up h_7 k0 2 (0 : Int32)) (fun h_12 =>
        ce_nm (hp_up h_12 k0 3 (0 : Int32)) (fun h_17 =>
          ce_nm (hp_up h_17 k0 4 (0 : Int32)) (fun h_22 =>
            Option.bind (f7_fill_53178 F (k0 + 5) 40 (-1 : Int32) h_22) (fun o30 =>
              some o30))))))
set_option maxRecDepth 20000 in
theorem c5_clear (l : Launch) (D : va_G) (ad : Nat → Nat) (cA : Nat → ClassId) (aK aV : Nat → Nat) (B0 : Nat) (hA : ce_Ad ad B0) (F : Nat) (k0 : Nat) (hk0 : ce_isNet k0) (h : Hp) (r : Hp) (e : f5_clear F k0 h = some r) : ce_Ct l D ad cA B0 (ce_St aK aV B0) y5_clear b5_clear 1 none 1 23 0 0 [.ref (ad k0)] h none r := by
  refine ce_enter hA (by decide) rfl (Nat.le_of_ble_eq_true rfl) (fun p e0 s m below meth c ls C hH hl => ?_)
  have hl : lv_has ls 1 [(0, .ref (ad k0))] := hl
  have hx := C.1
  have hb := C.2.1
  have e : Option.bind _ some = some r := (congrArg (fun z => Option.bind z some) e).trans rfl
  unfold f5_clear at e
  refine lv_aload_n hx hb d5_clear_0 rfl (lv_at hl 0 rfl) ?_
  refine lv_iconst (v := (0 : Int32)) hx hb d5_clear_1 (by decide) ?_
  refine pf_5_9 C hH hk0 d5_clear_2 (fun H locs hH => ?_)
  obtain ⟨h_2, eh_2, e⟩ := ce_nmE e
  rw [← eh_2] at hH
  refine lv_aload_n hx hb d5_clear_5 rfl (lv_at hl 0 rfl) ?_
  refine lv_iconst (v := (0 : Int32)) hx hb d5_clear_6 (by decide) ?_
  refine pf_5_15 C hH hk0 d5_clear_7 (fun H locs hH => ?_)
  obtain ⟨h_7, eh_7, e⟩ := ce_nmE e
  rw [← eh_7] at hH
  refine lv_aload_n hx hb d5_clear_10 rfl (lv_at hl 0 rfl) ?_
  refine lv_iconst (v := (0 : Int32)) hx hb d5_clear_11 (by decide) ?_
  refine pf_5_18 C hH hk0 d5_clear_12 (fun H locs hH => ?_)
  obtain ⟨h_12, eh_12, e⟩ := ce_nmE e
  rw [← eh_12] at hH
  refine lv_aload_n hx hb d5_clear_15 rfl (lv_at hl 0 rfl) ?_
  refine lv_iconst (v := (0 : Int32)) hx hb d5_clear_16 (by decide) ?_
  refine pf_5_21 C hH hk0 d5_clear_17 (fun H locs hH => ?_)
  obtain ⟨h_17, eh_17, e⟩ := ce_nmE e
  rw [← eh_17] at hH
  refine lv_aload_n hx hb d5_clear_20 rfl (lv_at hl 0 rfl) ?_
  refine lv_iconst (v := (0 : Int32)) hx hb d5_clear_21 (by decide) ?_
  refine pf_5_24 C hH hk0 d5_clear_22 (fun H locs hH => ?_)
  obtain ⟨h_22, eh_22, e⟩ := ce_nmE e
  rw [← eh_22] at hH
  refine lv_aload_n hx hb d5_clear_25 rfl (lv_at hl 0 rfl) ?_
  refine gf_5_41 C hH hk0 d5_clear_26 ?_
  refine lv_iconst (v := (-1 : Int32)) hx hb d5_clear_29 (by decide) ?_
  obtain ⟨o30, eo30, e⟩ := ce_bd e
  refine ce_callS (As := [.ref (ad (k0 + 5)), .int (-1 : Int32)]) (rest := []) C (ce_sok aK aV B0) hH (c7_fill_53178 l D ad cA aK aV B0 C.2.2.2.2.2.2.1 F (k0 + 5) 40 (-1 : Int32) ⟨(la_Net_5 hk0).1, (la_Net_5 hk0).2⟩ h_22 o30 eo30) mc7_fill_53178 ml_5_47 mt7_fill_53178 mI_A (n := 2) (by decide) rfl ⟨Nat.le_of_ble_eq_true rfl, Nat.le_of_ble_eq_true rfl⟩ ⟨Nat.le_of_ble_eq_true rfl, Nat.le_of_ble_eq_true rfl⟩ hl.1 rfl (Nat.le_of_ble_eq_true rfl) d5_clear_30 (fun H locs hH => ?_)
  refine W.eq (g2 := F0 m 33 ls []) rfl ?_
  exact ce_vret C (ce_sok aK aV B0) hH (Option.some.inj e) d5_clear_33
abbrev b6_isBlank : ByteArray := prog_8_method_7_code
def y6_isBlank : MethodName := ⟨cn_6, "isBlank", "(I)Z"⟩
theorem d6_isBlank_0 : decode b6_isBlank 0 = .ok (.iload_n 0, 1) := by decide +kernel
theorem d6_isBlank_1 : decode b6_isBlank 1 = .ok (.bipush 32, 2) := by decide +kernel
theorem d6_isBlank_3 : decode b6_isBlank 3 = .ok (.if_icmp .eq 9, 3) := by decide +kernel
theorem d6_isBlank_6 : decode b6_isBlank 6 = .ok (.iload_n 0, 1) := by decide +kernel
theorem d6_isBlank_7 : decode b6_isBlank 7 = .ok (.bipush 10, 2) := by decide +kernel
theorem d6_isBlank_9 : decode b6_isBlank 9 = .ok (.if_icmp .ne 7, 3) := by decide +kernel
theorem d6_isBlank_12 : decode b6_isBlank 12 = .ok (.iconst 1, 1) := by decide +kernel
theorem d6_isBlank_13 : decode b6_isBlank 13 = .ok (.goto 4, 3) := by decide +kernel
theorem d6_isBlank_16 : decode b6_isBlank 16 = .ok (.iconst 0, 1) := by decide +kernel
theorem d6_isBlank_17 : decode b6_isBlank 17 = .ok (.ireturn, 1) := by decide +kernel
def f6_isBlank (F : Nat) (x0 : Int32) (h : Hp) : Option (Int32 × Hp) :=
  if x0 = (32 : Int32) then
    some ((1 : Int32), h)
  else
    if x0 = (10 : Int32) then
      some ((1 : Int32), h)
    else
      some ((0 : Int32), h)
set_option maxRecDepth 20000 in
theorem c6_isBlank (l : Launch) (D : va_G) (ad : Nat → Nat) (cA : Nat → ClassId) (aK aV : Nat → Nat) (B0 : Nat) (hA : ce_Ad ad B0) (F : Nat) (x0 : Int32)  (h : Hp) (r : Int32 × Hp) (e : f6_isBlank F x0 h = some r) : ce_Ct l D ad cA B0 (ce_St aK aV B0) y6_isBlank b6_isBlank 1 (some .boolean) 0 0 0 0 [.int x0] h (some (.int r.1)) r.2 := by
  refine ce_enter hA (by decide) rfl (Nat.le_of_ble_eq_true rfl) (fun p e0 s m below meth c ls C hH hl => ?_)
  have hl : lv_has ls 1 [(0, .int x0)] := hl
  have hx := C.1
  have hb := C.2.1
  have e : Option.bind _ some = some r := (congrArg (fun z => Option.bind z some) e).trans rfl
  unfold f6_isBlank at e
  refine lv_iload_n hx hb d6_isBlank_0 rfl (lv_at hl 0 rfl) ?_
  refine lv_bipush (v := (32 : Int32)) hx hb d6_isBlank_1 (by decide) ?_
  refine lv_icmp_eq (tgt := 12) hx hb d6_isBlank_3 (by decide) (fun hc3 => ?_) (fun hc3 => ?_)
  · have e := ce_if1 e hc3
    refine lv_iconst (v := (1 : Int32)) hx hb d6_isBlank_12 (by decide) ?_
    refine lv_goto (tgt := 17) hx hb d6_isBlank_13 (by decide) ?_
    exact ce_zretE C (ce_sok aK aV B0) hH (Or.inr rfl) e d6_isBlank_17
  · have e := ce_if0 e hc3
    refine lv_iload_n hx hb d6_isBlank_6 rfl (lv_at hl 0 rfl) ?_
    refine lv_bipush (v := (10 : Int32)) hx hb d6_isBlank_7 (by decide) ?_
    refine lv_icmp_ne (tgt := 16) hx hb d6_isBlank_9 (by decide) (fun hc9 => ?_) (fun hc9 => ?_)
    · have e := ce_if0 e hc9
      refine lv_iconst (v := (0 : Int32)) hx hb d6_isBlank_16 (by decide) ?_
      exact ce_zretE C (ce_sok aK aV B0) hH (Or.inl rfl) e d6_isBlank_17
    · have e := ce_if1 e hc9
      refine lv_iconst (v := (1 : Int32)) hx hb d6_isBlank_12 (by decide) ?_
      refine lv_goto (tgt := 17) hx hb d6_isBlank_13 (by decide) ?_
      exact ce_zretE C (ce_sok aK aV B0) hH (Or.inr rfl) e d6_isBlank_17
abbrev b6_kindOf : ByteArray := prog_8_method_8_code
def y6_kindOf : MethodName := ⟨cn_6, "kindOf", "(I)I"⟩
theorem d6_kindOf_0 : decode b6_kindOf 0 = .ok (.iload_n 0, 1) := by decide +kernel
theorem d6_kindOf_1 : decode b6_kindOf 1 = .ok (.iconst (-1), 1) := by decide +kernel
theorem d6_kindOf_2 : decode b6_kindOf 2 = .ok (.if_icmp .ne 5, 3) := by decide +kernel
theorem d6_kindOf_5 : decode b6_kindOf 5 = .ok (.iconst 0, 1) := by decide +kernel
theorem d6_kindOf_6 : decode b6_kindOf 6 = .ok (.ireturn, 1) := by decide +kernel
theorem d6_kindOf_7 : decode b6_kindOf 7 = .ok (.iload_n 0, 1) := by decide +kernel
theorem d6_kindOf_8 : decode b6_kindOf 8 = .ok (.bipush 97, 2) := by decide +kernel
theorem d6_kindOf_10 : decode b6_kindOf 10 = .ok (.if_icmp .lt 11, 3) := by decide +kernel
theorem d6_kindOf_13 : decode b6_kindOf 13 = .ok (.iload_n 0, 1) := by decide +kernel
theorem d6_kindOf_14 : decode b6_kindOf 14 = .ok (.bipush 122, 2) := by decide +kernel
theorem d6_kindOf_16 : decode b6_kindOf 16 = .ok (.if_icmp .gt 5, 3) := by decide +kernel
theorem d6_kindOf_19 : decode b6_kindOf 19 = .ok (.iconst 1, 1) := by decide +kernel
theorem d6_kindOf_20 : decode b6_kindOf 20 = .ok (.ireturn, 1) := by decide +kernel
theorem d6_kindOf_21 : decode b6_kindOf 21 = .ok (.iload_n 0, 1) := by decide +kernel
theorem d6_kindOf_22 : decode b6_kindOf 22 = .ok (.bipush 48, 2) := by decide +kernel
theorem d6_kindOf_24 : decode b6_kindOf 24 = .ok (.if_icmp .lt 11, 3) := by decide +kernel
theorem d6_kindOf_27 : decode b6_kindOf 27 = .ok (.iload_n 0, 1) := by decide +kernel
theorem d6_kindOf_28 : decode b6_kindOf 28 = .ok (.bipush 57, 2) := by decide +kernel
theorem d6_kindOf_30 : decode b6_kindOf 30 = .ok (.if_icmp .gt 5, 3) := by decide +kernel
theorem d6_kindOf_33 : decode b6_kindOf 33 = .ok (.iconst 2, 1) := by decide +kernel
theorem d6_kindOf_34 : decode b6_kindOf 34 = .ok (.ireturn, 1) := by decide +kernel
theorem d6_kindOf_35 : decode b6_kindOf 35 = .ok (.iload_n 0, 1) := by decide +kernel
theorem d6_kindOf_36 : decode b6_kindOf 36 = .ok (.bipush 59, 2) := by decide +kernel
theorem d6_kindOf_38 : decode b6_kindOf 38 = .ok (.if_icmp .ne 7, 3) := by decide +kernel
theorem d6_kindOf_41 : decode b6_kindOf 41 = .ok (.iconst 3, 1) := by decide +kernel
theorem d6_kindOf_42 : decode b6_kindOf 42 = .ok (.goto 4, 3) := by decide +kernel
theorem d6_kindOf_45 : decode b6_kindOf 45 = .ok (.iconst 4, 1) := by decide +kernel
theorem d6_kindOf_46 : decode b6_kindOf 46 = .ok (.ireturn, 1) := by decide +kernel
def f6_kindOf (F : Nat) (x0 : Int32) (h : Hp) : Option (Int32 × Hp) :=
  if x0 = (-1 : Int32) then
    some ((0 : Int32), h)
  else
    if x0 < (97 : Int32) then
      if x0 < (48 : Int32) then
        if x0 = (59 : Int32) then
          some ((3 : Int32), h)
        else
          some ((4 : Int32), h)
      else
        if (57 : Int32) < x0 then
          if x0 = (59 : Int32) then
            some ((3 : Int32), h)
          else
            some ((4 : Int32), h)
        else
          some ((2 : Int32), h)
    else
      if (122 : Int32) < x0 then
        if x0 < (48 : Int32) then
          if x0 = (59 : Int32) then
            some ((3 : Int32), h)
          else
            some ((4 : Int32), h)
        else
          if (57 : Int32) < x0 then
            if x0 = (59 : Int32) then
              some ((3 : Int32), h)
            else
              some ((4 : Int32), h)
          else
            some ((2 : Int32), h)
      else
        some ((1 : Int32), h)
set_option maxRecDepth 20000 in
theorem c6_kindOf (l : Launch) (D : va_G) (ad : Nat → Nat) (cA : Nat → ClassId) (aK aV : Nat → Nat) (B0 : Nat) (hA : ce_Ad ad B0) (F : Nat) (x0 : Int32)  (h : Hp) (r : Int32 × Hp) (e : f6_kindOf F x0 h = some r) : ce_Ct l D ad cA B0 (ce_St aK aV B0) y6_kindOf b6_kindOf 1 (some .int) 0 0 0 0 [.int x0] h (some (.int r.1)) r.2 := by
  refine ce_enter hA (by decide) rfl (Nat.le_of_ble_eq_true rfl) (fun p e0 s m below meth c ls C hH hl => ?_)
  have hl : lv_has ls 1 [(0, .int x0)] := hl
  have hx := C.1
  have hb := C.2.1
  have e : Option.bind _ some = some r := (congrArg (fun z => Option.bind z some) e).trans rfl
  unfold f6_kindOf at e
  refine lv_iload_n hx hb d6_kindOf_0 rfl (lv_at hl 0 rfl) ?_
  refine lv_iconst (v := (-1 : Int32)) hx hb d6_kindOf_1 (by decide) ?_
  refine lv_icmp_ne (tgt := 7) hx hb d6_kindOf_2 (by decide) (fun hc2 => ?_) (fun hc2 => ?_)
  · have e := ce_if0 e hc2
    refine lv_iload_n hx hb d6_kindOf_7 rfl (lv_at hl 0 rfl) ?_
    refine lv_bipush (v := (97 : Int32)) hx hb d6_kindOf_8 (by decide) ?_
    refine lv_icmp_lt (tgt := 21) hx hb d6_kindOf_10 (by decide) (fun hc10 => ?_) (fun hc10 => ?_)
    · have e := ce_if1 e hc10
      refine lv_iload_n hx hb d6_kindOf_21 rfl (lv_at hl 0 rfl) ?_
      refine lv_bipush (v := (48 : Int32)) hx hb d6_kindOf_22 (by decide) ?_
      refine lv_icmp_lt (tgt := 35) hx hb d6_kindOf_24 (by decide) (fun hc24 => ?_) (fun hc24 => ?_)
      · have e := ce_if1 e hc24
        refine lv_iload_n hx hb d6_kindOf_35 rfl (lv_at hl 0 rfl) ?_
        refine lv_bipush (v := (59 : Int32)) hx hb d6_kindOf_36 (by decide) ?_
        refine lv_icmp_ne (tgt := 45) hx hb d6_kindOf_38 (by decide) (fun hc38 => ?_) (fun hc38 => ?_)
        · have e := ce_if0 e hc38
          refine lv_iconst (v := (4 : Int32)) hx hb d6_kindOf_45 (by decide) ?_
          exact ce_iretE C (ce_sok aK aV B0) hH e d6_kindOf_46
        · have e := ce_if1 e hc38
          refine lv_iconst (v := (3 : Int32)) hx hb d6_kindOf_41 (by decide) ?_
          refine lv_goto (tgt := 46) hx hb d6_kindOf_42 (by decide) ?_
          exact ce_iretE C (ce_sok aK aV B0) hH e d6_kindOf_46
      · have e := ce_if0 e hc24
        refine lv_iload_n hx hb d6_kindOf_27 rfl (lv_at hl 0 rfl) ?_
        refine lv_bipush (v := (57 : Int32)) hx hb d6_kindOf_28 (by decide) ?_
        refine lv_icmp_gt (tgt := 35) hx hb d6_kindOf_30 (by decide) (fun hc30 => ?_) (fun hc30 => ?_)
        · have e := ce_if1 e hc30
          refine lv_iload_n hx hb d6_kindOf_35 rfl (lv_at hl 0 rfl) ?_
          refine lv_bipush (v := (59 : Int32)) hx hb d6_kindOf_36 (by decide) ?_
          refine lv_icmp_ne (tgt := 45) hx hb d6_kindOf_38 (by decide) (fun hc38 => ?_) (fun hc38 => ?_)
          · have e := ce_if0 e hc38
            refine lv_iconst (v := (4 : Int32)) hx hb d6_kindOf_45 (by decide) ?_
            exact ce_iretE C (ce_sok aK aV B0) hH e d6_kindOf_46
          · have e := ce_if1 e hc38
            refine lv_iconst (v := (3 : Int32)) hx hb d6_kindOf_41 (by decide) ?_
            refine lv_goto (tgt := 46) hx hb d6_kindOf_42 (by decide) ?_
            exact ce_iretE C (ce_sok aK aV B0) hH e d6_kindOf_46
        · have e := ce_if0 e hc30
          refine lv_iconst (v := (2 : Int32)) hx hb d6_kindOf_33 (by decide) ?_
          exact ce_iretE C (ce_sok aK aV B0) hH e d6_kindOf_34
    · have e := ce_if0 e hc10
      refine lv_iload_n hx hb d6_kindOf_13 rfl (lv_at hl 0 rfl) ?_
      refine lv_bipush (v := (122 : Int32)) hx hb d6_kindOf_14 (by decide) ?_
      refine lv_icmp_gt (tgt := 21) hx hb d6_kindOf_16 (by decide) (fun hc16 => ?_) (fun hc16 => ?_)
      · have e := ce_if1 e hc16
        refine lv_iload_n hx hb d6_kindOf_21 rfl (lv_at hl 0 rfl) ?_
        refine lv_bipush (v := (48 : Int32)) hx hb d6_kindOf_22 (by decide) ?_
        refine lv_icmp_lt (tgt := 35) hx hb d6_kindOf_24 (by decide) (fun hc24 => ?_) (fun hc24 => ?_)
        · have e := ce_if1 e hc24
          refine lv_iload_n hx hb d6_kindOf_35 rfl (lv_at hl 0 rfl) ?_
          refine lv_bipush (v := (59 : Int32)) hx hb d6_kindOf_36 (by decide) ?_
          refine lv_icmp_ne (tgt := 45) hx hb d6_kindOf_38 (by decide) (fun hc38 => ?_) (fun hc38 => ?_)
          · have e := ce_if0 e hc38
            refine lv_iconst (v := (4 : Int32)) hx hb d6_kindOf_45 (by decide) ?_
            exact ce_iretE C (ce_sok aK aV B0) hH e d6_kindOf_46
          · have e := ce_if1 e hc38
            refine lv_iconst (v := (3 : Int32)) hx hb d6_kindOf_41 (by decide) ?_
            refine lv_goto (tgt := 46) hx hb d6_kindOf_42 (by decide) ?_
            exact ce_iretE C (ce_sok aK aV B0) hH e d6_kindOf_46
        · have e := ce_if0 e hc24
          refine lv_iload_n hx hb d6_kindOf_27 rfl (lv_at hl 0 rfl) ?_
          refine lv_bipush (v := (57 : Int32)) hx hb d6_kindOf_28 (by decide) ?_
          refine lv_icmp_gt (tgt := 35) hx hb d6_kindOf_30 (by decide) (fun hc30 => ?_) (fun hc30 => ?_)
          · have e := ce_if1 e hc30
            refine lv_iload_n hx hb d6_kindOf_35 rfl (lv_at hl 0 rfl) ?_
            refine lv_bipush (v := (59 : Int32)) hx hb d6_kindOf_36 (by decide) ?_
            refine lv_icmp_ne (tgt := 45) hx hb d6_kindOf_38 (by decide) (fun hc38 => ?_) (fun hc38 => ?_)
            · have e := ce_if0 e hc38
              refine lv_iconst (v := (4 : Int32)) hx hb d6_kindOf_45 (by decide) ?_
              exact ce_iretE C (ce_sok aK aV B0) hH e d6_kindOf_46
            · have e := ce_if1 e hc38
              refine lv_iconst (v := (3 : Int32)) hx hb d6_kindOf_41 (by decide) ?_
              refine lv_goto (tgt := 46) hx hb d6_kindOf_42 (by decide) ?_
              exact ce_iretE C (ce_sok aK aV B0) hH e d6_kindOf_46
          · have e := ce_if0 e hc30
            refine lv_iconst (v := (2 : Int32)) hx hb d6_kindOf_33 (by decide) ?_
            exact ce_iretE C (ce_sok aK aV B0) hH e d6_kindOf_34
      · have e := ce_if0 e hc16
        refine lv_iconst (v := (1 : Int32)) hx hb d6_kindOf_19 (by decide) ?_
        exact ce_iretE C (ce_sok aK aV B0) hH e d6_kindOf_20
  · have e := ce_if1 e hc2
    refine lv_iconst (v := (0 : Int32)) hx hb d6_kindOf_5 (by decide) ?_
    exact ce_iretE C (ce_sok aK aV B0) hH e d6_kindOf_6
abbrev b6_advance : ByteArray := prog_8_method_6_code
def y6_advance : MethodName := ⟨cn_6, "advance", "()V"⟩
theorem d6_advance_0 : decode b6_advance 0 = .ok (.aload_n 0, 1) := by decide +kernel
theorem d6_advance_1 : decode b6_advance 1 = .ok (.aload_n 0, 1) := by decide +kernel
theorem d6_advance_2 : decode b6_advance 2 = .ok (.getfield 25, 3) := by decide +kernel
theorem d6_advance_5 : decode b6_advance 5 = .ok (.putfield 22, 3) := by decide +kernel
theorem d6_advance_8 : decode b6_advance 8 = .ok (.aload_n 0, 1) := by decide +kernel
theorem d6_advance_9 : decode b6_advance 9 = .ok (.getfield 22, 3) := by decide +kernel
theorem d6_advance_12 : decode b6_advance 12 = .ok (.aload_n 0, 1) := by decide +kernel
theorem d6_advance_13 : decode b6_advance 13 = .ok (.getfield 12, 3) := by decide +kernel
theorem d6_advance_16 : decode b6_advance 16 = .ok (.getfield 41, 3) := by decide +kernel
theorem d6_advance_19 : decode b6_advance 19 = .ok (.if_icmp .ge 33, 3) := by decide +kernel
theorem d6_advance_22 : decode b6_advance 22 = .ok (.aload_n 0, 1) := by decide +kernel
theorem d6_advance_23 : decode b6_advance 23 = .ok (.getfield 12, 3) := by decide +kernel
theorem d6_advance_26 : decode b6_advance 26 = .ok (.aload_n 0, 1) := by decide +kernel
theorem d6_advance_27 : decode b6_advance 27 = .ok (.getfield 22, 3) := by decide +kernel
theorem d6_advance_30 : decode b6_advance 30 = .ok (.invokevirtual 44, 3) := by decide +kernel
theorem d6_advance_33 : decode b6_advance 33 = .ok (.invokestatic 48, 3) := by decide +kernel
theorem d6_advance_36 : decode b6_advance 36 = .ok (.ifCond .eq 16, 3) := by decide +kernel
theorem d6_advance_39 : decode b6_advance 39 = .ok (.aload_n 0, 1) := by decide +kernel
theorem d6_advance_40 : decode b6_advance 40 = .ok (.dup, 1) := by decide +kernel
theorem d6_advance_41 : decode b6_advance 41 = .ok (.getfield 22, 3) := by decide +kernel
theorem d6_advance_44 : decode b6_advance 44 = .ok (.iconst 1, 1) := by decide +kernel
theorem d6_advance_45 : decode b6_advance 45 = .ok (.iadd, 1) := by decide +kernel
theorem d6_advance_46 : decode b6_advance 46 = .ok (.putfield 22, 3) := by decide +kernel
theorem d6_advance_49 : decode b6_advance 49 = .ok (.goto (-41), 3) := by decide +kernel
theorem d6_advance_52 : decode b6_advance 52 = .ok (.aload_n 0, 1) := by decide +kernel
theorem d6_advance_53 : decode b6_advance 53 = .ok (.getfield 12, 3) := by decide +kernel
theorem d6_advance_56 : decode b6_advance 56 = .ok (.aload_n 0, 1) := by decide +kernel
theorem d6_advance_57 : decode b6_advance 57 = .ok (.getfield 22, 3) := by decide +kernel
theorem d6_advance_60 : decode b6_advance 60 = .ok (.invokevirtual 44, 3) := by decide +kernel
theorem d6_advance_63 : decode b6_advance 63 = .ok (.istore_n 1, 1) := by decide +kernel
theorem d6_advance_64 : decode b6_advance 64 = .ok (.aload_n 0, 1) := by decide +kernel
theorem d6_advance_65 : decode b6_advance 65 = .ok (.iload_n 1, 1) := by decide +kernel
theorem d6_advance_66 : decode b6_advance 66 = .ok (.invokestatic 52, 3) := by decide +kernel
theorem d6_advance_69 : decode b6_advance 69 = .ok (.putfield 18, 3) := by decide +kernel
theorem d6_advance_72 : decode b6_advance 72 = .ok (.aload_n 0, 1) := by decide +kernel
theorem d6_advance_73 : decode b6_advance 73 = .ok (.iload_n 1, 1) := by decide +kernel
theorem d6_advance_74 : decode b6_advance 74 = .ok (.iconst (-1), 1) := by decide +kernel
theorem d6_advance_75 : decode b6_advance 75 = .ok (.if_icmp .ne 10, 3) := by decide +kernel
theorem d6_advance_78 : decode b6_advance 78 = .ok (.aload_n 0, 1) := by decide +kernel
theorem d6_advance_79 : decode b6_advance 79 = .ok (.getfield 22, 3) := by decide +kernel
theorem d6_advance_82 : decode b6_advance 82 = .ok (.goto 9, 3) := by decide +kernel
theorem d6_advance_85 : decode b6_advance 85 = .ok (.aload_n 0, 1) := by decide +kernel
theorem d6_advance_86 : decode b6_advance 86 = .ok (.getfield 22, 3) := by decide +kernel
theorem d6_advance_89 : decode b6_advance 89 = .ok (.iconst 1, 1) := by decide +kernel
theorem d6_advance_90 : decode b6_advance 90 = .ok (.iadd, 1) := by decide +kernel
theorem d6_advance_91 : decode b6_advance 91 = .ok (.putfield 25, 3) := by decide +kernel
theorem d6_advance_94 : decode b6_advance 94 = .ok (.aload_n 0, 1) := by decide +kernel
theorem d6_advance_95 : decode b6_advance 95 = .ok (.getfield 18, 3) := by decide +kernel
theorem d6_advance_98 : decode b6_advance 98 = .ok (.iconst 1, 1) := by decide +kernel
theorem d6_advance_99 : decode b6_advance 99 = .ok (.if_icmp .eq 11, 3) := by decide +kernel
theorem d6_advance_102 : decode b6_advance 102 = .ok (.aload_n 0, 1) := by decide +kernel
theorem d6_advance_103 : decode b6_advance 103 = .ok (.getfield 18, 3) := by decide +kernel
theorem d6_advance_106 : decode b6_advance 106 = .ok (.iconst 2, 1) := by decide +kernel
theorem d6_advance_107 : decode b6_advance 107 = .ok (.if_icmp .ne 51, 3) := by decide +kernel
theorem d6_advance_110 : decode b6_advance 110 = .ok (.aload_n 0, 1) := by decide +kernel
theorem d6_advance_111 : decode b6_advance 111 = .ok (.getfield 25, 3) := by decide +kernel
theorem d6_advance_114 : decode b6_advance 114 = .ok (.aload_n 0, 1) := by decide +kernel
theorem d6_advance_115 : decode b6_advance 115 = .ok (.getfield 12, 3) := by decide +kernel
theorem d6_advance_118 : decode b6_advance 118 = .ok (.getfield 41, 3) := by decide +kernel
theorem d6_advance_121 : decode b6_advance 121 = .ok (.if_icmp .ge 37, 3) := by decide +kernel
theorem d6_advance_124 : decode b6_advance 124 = .ok (.aload_n 0, 1) := by decide +kernel
theorem d6_advance_125 : decode b6_advance 125 = .ok (.getfield 12, 3) := by decide +kernel
theorem d6_advance_128 : decode b6_advance 128 = .ok (.aload_n 0, 1) := by decide +kernel
theorem d6_advance_129 : decode b6_advance 129 = .ok (.getfield 25, 3) := by decide +kernel
theorem d6_advance_132 : decode b6_advance 132 = .ok (.invokevirtual 44, 3) := by decide +kernel
theorem d6_advance_135 : decode b6_advance 135 = .ok (.invokestatic 52, 3) := by decide +kernel
theorem d6_advance_138 : decode b6_advance 138 = .ok (.aload_n 0, 1) := by decide +kernel
theorem d6_advance_139 : decode b6_advance 139 = .ok (.getfield 18, 3) := by decide +kernel
theorem d6_advance_142 : decode b6_advance 142 = .ok (.if_icmp .ne 16, 3) := by decide +kernel
theorem d6_advance_145 : decode b6_advance 145 = .ok (.aload_n 0, 1) := by decide +kernel
theorem d6_advance_146 : decode b6_advance 146 = .ok (.dup, 1) := by decide +kernel
theorem d6_advance_147 : decode b6_advance 147 = .ok (.getfield 25, 3) := by decide +kernel
theorem d6_advance_150 : decode b6_advance 150 = .ok (.iconst 1, 1) := by decide +kernel
theorem d6_advance_151 : decode b6_advance 151 = .ok (.iadd, 1) := by decide +kernel
theorem d6_advance_152 : decode b6_advance 152 = .ok (.putfield 25, 3) := by decide +kernel
theorem d6_advance_155 : decode b6_advance 155 = .ok (.goto (-45), 3) := by decide +kernel
theorem d6_advance_158 : decode b6_advance 158 = .ok (.return_, 1) := by decide +kernel
theorem fl_6_25 : Cond.fieldLink cn_6 25 (ft_6 3).1 (ft_6 3).2.1 (ft_6 3).2.2.1 ∈ ce_cm := ce_cm_of (List.mem_of_getElem? (i := 149) (by decide +kernel)) (by decide +kernel)
theorem gf_6_25 (C : ce_Cx p s m args c meth cc nL ret cn_6 D ad cA B0 (ce_St aK aV B0)) (hH : ce_H D ad cA B0 X s h H locs) (hdg : decode cc pc = .ok (.getfield 25, 3)) (kk : W p l e0 R s m args below meth c H locs cells slots Q (F0 m (pc + 3) ls (.int (h 1 3) :: rest))) : W p l e0 R s m args below meth c H locs cells slots Q (F0 m pc ls (.ref (ad 1) :: rest)) := by
  exact ce_get C hH (k := 1) (ci := 6) (j := 3) (N := 6) (sj := none) (by decide) rfl rfl fw_6 (by decide) fl_6_25 rfl hdg kk
theorem pf_6_25 (C : ce_Cx p s m args c meth cc nL ret cn_6 D ad cA B0 (ce_St aK aV B0)) (hH : ce_H D ad cA B0 X s h H locs) {x : Int32} (hdg : decode cc pc = .ok (.putfield 25, 3)) (kk : ∀ (H1 : Heap) (locs1 : List Loc), ce_H D ad cA B0 X s (hp_up h 1 3 x) H1 locs1 → W p l e0 R s m args below meth c H1 locs1 cells slots Q (F0 m (pc + 3) ls rest)) : W p l e0 R s m args below meth c H locs cells slots Q (F0 m pc ls (.int x :: .ref (ad 1) :: rest)) := by
  exact ce_put C hH (k := 1) (ci := 6) (j := 3) (N := 6) (fy := fy_6) (sj := none) x (by decide) rfl rfl fw_6 fo_6 fn_6 (by decide) fl_6_25 rfl rfl (v := .int x) (by simp [ce_slot, upd]) rfl rfl hdg kk
theorem fl_6_22 : Cond.fieldLink cn_6 22 (ft_6 2).1 (ft_6 2).2.1 (ft_6 2).2.2.1 ∈ ce_cm := ce_cm_of (List.mem_of_getElem? (i := 146) (by decide +kernel)) (by decide +kernel)
theorem gf_6_22 (C : ce_Cx p s m args c meth cc nL ret cn_6 D ad cA B0 (ce_St aK aV B0)) (hH : ce_H D ad cA B0 X s h H locs) (hdg : decode cc pc = .ok (.getfield 22, 3)) (kk : W p l e0 R s m args below meth c H locs cells slots Q (F0 m (pc + 3) ls (.int (h 1 2) :: rest))) : W p l e0 R s m args below meth c H locs cells slots Q (F0 m pc ls (.ref (ad 1) :: rest)) := by
  exact ce_get C hH (k := 1) (ci := 6) (j := 2) (N := 6) (sj := none) (by decide) rfl rfl fw_6 (by decide) fl_6_22 rfl hdg kk
theorem pf_6_22 (C : ce_Cx p s m args c meth cc nL ret cn_6 D ad cA B0 (ce_St aK aV B0)) (hH : ce_H D ad cA B0 X s h H locs) {x : Int32} (hdg : decode cc pc = .ok (.putfield 22, 3)) (kk : ∀ (H1 : Heap) (locs1 : List Loc), ce_H D ad cA B0 X s (hp_up h 1 2 x) H1 locs1 → W p l e0 R s m args below meth c H1 locs1 cells slots Q (F0 m (pc + 3) ls rest)) : W p l e0 R s m args below meth c H locs cells slots Q (F0 m pc ls (.int x :: .ref (ad 1) :: rest)) := by
  exact ce_put C hH (k := 1) (ci := 6) (j := 2) (N := 6) (fy := fy_6) (sj := none) x (by decide) rfl rfl fw_6 fo_6 fn_6 (by decide) fl_6_22 rfl rfl (v := .int x) (by simp [ce_slot, upd]) rfl rfl hdg kk
theorem fl_6_12 : Cond.fieldLink cn_6 12 (ft_6 0).1 (ft_6 0).2.1 (ft_6 0).2.2.1 ∈ ce_cm := ce_cm_of (List.mem_of_getElem? (i := 139) (by decide +kernel)) (by decide +kernel)
theorem gf_6_12 (C : ce_Cx p s m args c meth cc nL ret cn_6 D ad cA B0 (ce_St aK aV B0)) (hH : ce_H D ad cA B0 X s h H locs) (hdg : decode cc pc = .ok (.getfield 12, 3)) (kk : W p l e0 R s m args below meth c H locs cells slots Q (F0 m (pc + 3) ls (.ref (ad 2) :: rest))) : W p l e0 R s m args below meth c H locs cells slots Q (F0 m pc ls (.ref (ad 1) :: rest)) := by
  exact ce_get C hH (k := 1) (ci := 6) (j := 0) (N := 6) (sj := some (some 2)) (by decide) rfl rfl fw_6 (by decide) fl_6_12 rfl hdg kk
theorem fl_6_41 : Cond.fieldLink cn_6 41 (ft_7 1).1 (ft_7 1).2.1 (ft_7 1).2.2.1 ∈ ce_cm := ce_cm_of (List.mem_of_getElem? (i := 132) (by decide +kernel)) (by decide +kernel)
theorem gf_6_41 (C : ce_Cx p s m args c meth cc nL ret cn_6 D ad cA B0 (ce_St aK aV B0)) (hH : ce_H D ad cA B0 X s h H locs) (hdg : decode cc pc = .ok (.getfield 41, 3)) (kk : W p l e0 R s m args below meth c H locs cells slots Q (F0 m (pc + 3) ls (.int (h 2 1) :: rest))) : W p l e0 R s m args below meth c H locs cells slots Q (F0 m pc ls (.ref (ad 2) :: rest)) := by
  exact ce_get C hH (k := 2) (ci := 7) (j := 1) (N := 2) (sj := none) (by decide) rfl rfl fw_7 (by decide) fl_6_41 rfl hdg kk
theorem pf_6_41 (C : ce_Cx p s m args c meth cc nL ret cn_6 D ad cA B0 (ce_St aK aV B0)) (hH : ce_H D ad cA B0 X s h H locs) {x : Int32} (hdg : decode cc pc = .ok (.putfield 41, 3)) (kk : ∀ (H1 : Heap) (locs1 : List Loc), ce_H D ad cA B0 X s (hp_up h 2 1 x) H1 locs1 → W p l e0 R s m args below meth c H1 locs1 cells slots Q (F0 m (pc + 3) ls rest)) : W p l e0 R s m args below meth c H locs cells slots Q (F0 m pc ls (.int x :: .ref (ad 2) :: rest)) := by
  exact ce_put C hH (k := 2) (ci := 7) (j := 1) (N := 2) (fy := fy_7) (sj := none) x (by decide) rfl rfl fw_7 fo_7 fn_7 (by decide) fl_6_41 rfl rfl (v := .int x) (by simp [ce_slot, upd]) rfl rfl hdg kk
theorem lo_2 : 2 < 96 ∧ ∃ sl, ce_lay 2 = .inr (7, sl) := ⟨by decide, _, rfl⟩
theorem mc6_isBlank : Cond.code y6_isBlank b6_isBlank 1 (some .boolean) ∈ ce_cm := ce_cm_of (List.mem_of_getElem? (i := 515) (by decide +kernel)) (by decide +kernel)
theorem ml_6_48 : Cond.methodLink cn_6 48 y6_isBlank ∈ ce_cm := ce_cm_of (List.mem_of_getElem? (i := 513) (by decide +kernel)) (by decide +kernel)
theorem mt6_isBlank : Cond.static y6_isBlank ∈ ce_cm := ce_cm_of (List.mem_of_getElem? (i := 514) (by decide +kernel)) (by decide +kernel)
theorem mI_6 : Cond.initialized cn_6 ∈ ce_cm := ce_cm_of (List.mem_of_getElem? (i := 91) (by decide +kernel)) (by decide +kernel)
theorem mc7_byteAt : Cond.code y7_byteAt b7_byteAt 2 (some .int) ∈ ce_cm := ce_cm_of (List.mem_of_getElem? (i := 512) (by decide +kernel)) (by decide +kernel)
theorem ml_6_44 : Cond.methodLink cn_6 44 y7_byteAt ∈ ce_cm := ce_cm_of (List.mem_of_getElem? (i := 509) (by decide +kernel)) (by decide +kernel)
theorem mi7_byteAt : Cond.instanceMethod y7_byteAt ∈ ce_cm := ce_cm_of (List.mem_of_getElem? (i := 510) (by decide +kernel)) (by decide +kernel)
theorem ms7_byteAt : Cond.selects cn_7 y7_byteAt y7_byteAt ∈ ce_cm := ce_cm_of (List.mem_of_getElem? (i := 511) (by decide +kernel)) (by decide +kernel)
theorem mI_7 : Cond.initialized cn_7 ∈ ce_cm := ce_cm_of (List.mem_of_getElem? (i := 92) (by decide +kernel)) (by decide +kernel)
theorem fl_6_18 : Cond.fieldLink cn_6 18 (ft_6 1).1 (ft_6 1).2.1 (ft_6 1).2.2.1 ∈ ce_cm := ce_cm_of (List.mem_of_getElem? (i := 143) (by decide +kernel)) (by decide +kernel)
theorem gf_6_18 (C : ce_Cx p s m args c meth cc nL ret cn_6 D ad cA B0 (ce_St aK aV B0)) (hH : ce_H D ad cA B0 X s h H locs) (hdg : decode cc pc = .ok (.getfield 18, 3)) (kk : W p l e0 R s m args below meth c H locs cells slots Q (F0 m (pc + 3) ls (.int (h 1 1) :: rest))) : W p l e0 R s m args below meth c H locs cells slots Q (F0 m pc ls (.ref (ad 1) :: rest)) := by
  exact ce_get C hH (k := 1) (ci := 6) (j := 1) (N := 6) (sj := none) (by decide) rfl rfl fw_6 (by decide) fl_6_18 rfl hdg kk
theorem pf_6_18 (C : ce_Cx p s m args c meth cc nL ret cn_6 D ad cA B0 (ce_St aK aV B0)) (hH : ce_H D ad cA B0 X s h H locs) {x : Int32} (hdg : decode cc pc = .ok (.putfield 18, 3)) (kk : ∀ (H1 : Heap) (locs1 : List Loc), ce_H D ad cA B0 X s (hp_up h 1 1 x) H1 locs1 → W p l e0 R s m args below meth c H1 locs1 cells slots Q (F0 m (pc + 3) ls rest)) : W p l e0 R s m args below meth c H locs cells slots Q (F0 m pc ls (.int x :: .ref (ad 1) :: rest)) := by
  exact ce_put C hH (k := 1) (ci := 6) (j := 1) (N := 6) (fy := fy_6) (sj := none) x (by decide) rfl rfl fw_6 fo_6 fn_6 (by decide) fl_6_18 rfl rfl (v := .int x) (by simp [ce_slot, upd]) rfl rfl hdg kk
theorem mc6_kindOf : Cond.code y6_kindOf b6_kindOf 1 (some .int) ∈ ce_cm := ce_cm_of (List.mem_of_getElem? (i := 518) (by decide +kernel)) (by decide +kernel)
theorem ml_6_52 : Cond.methodLink cn_6 52 y6_kindOf ∈ ce_cm := ce_cm_of (List.mem_of_getElem? (i := 516) (by decide +kernel)) (by decide +kernel)
theorem mt6_kindOf : Cond.static y6_kindOf ∈ ce_cm := ce_cm_of (List.mem_of_getElem? (i := 517) (by decide +kernel)) (by decide +kernel)
def f6_advance_b8 (F : Nat)  (h : Hp) : Option ((Hp) ⊕ (Hp)) :=
  if (h 2 1) ≤ (h 1 2) then
    some (.inr h)
  else
    Option.bind (f7_byteAt F (h 1 2) h) (fun o30 =>
      Option.bind (f6_isBlank F o30.1 o30.2) (fun o33 =>
        if o33.1 = 0 then
          some (.inr o33.2)
        else
          ce_nm (hp_up o33.2 1 2 ((o33.2 1 2) + (1 : Int32))) (fun h_46 =>
            some (.inl h_46))))
set_option maxRecDepth 20000 in
theorem l6_advance_8 (C : ce_Cx p s m args c meth b6_advance 2 none cn_6 D ad cA B0 (ce_St aK aV B0)) (F : Nat)   (r : Hp) (g : (Hp) → Option (Hp)) (hx : ∀  (h : Hp) (H : Heap) (locs : List Loc) (ls : Array Slot), ce_H D ad cA B0 [] s h H locs → lv_has ls 2 [(0, .ref (ad 1))] → g h = some r → W p l e0 { frames := 1, cells := 0, slots := 0, locals := 21 } s m args below meth c H locs 0 0 (MQ below (ce_Q D ad cA B0 (ce_St aK aV B0) none r) args s 0 0 (fun q => B0 ≤ q)) (F0 m 52 ls [])) : ∀ (n : Nat)  (h : Hp) (H : Heap) (locs : List Loc) (ls : Array Slot), ce_H D ad cA B0 [] s h H locs → lv_has ls 2 [(0, .ref (ad 1))] → Option.bind (ce_it (fun (st : Hp) => f6_advance_b8 F  st) n h) g = some r → W p l e0 { frames := 1, cells := 0, slots := 0, locals := 21 } s m args below meth c H locs 0 0 (MQ below (ce_Q D ad cA B0 (ce_St aK aV B0) none r) args s 0 0 (fun q => B0 ≤ q)) (F0 m 8 ls []) := by
  intro n
  induction n with
  | zero =>
    intro  h H locs ls hH hl e
    exact absurd e (fun z => by cases z)
  | succ n ih =>
    intro  h H locs ls hH hl e
    have hx9 := C.1
    have hb := C.2.1
    have e : Option.bind (f6_advance_b8 F   h) _ = some r := ce_it_bd e
    unfold f6_advance_b8 at e
    refine lv_aload_n hx9 hb d6_advance_8 rfl (lv_at hl 0 rfl) ?_
    refine gf_6_22 C hH d6_advance_9 ?_
    refine lv_aload_n hx9 hb d6_advance_12 rfl (lv_at hl 0 rfl) ?_
    refine gf_6_12 C hH d6_advance_13 ?_
    refine gf_6_41 C hH d6_advance_16 ?_
    refine lv_icmp_ge (tgt := 52) hx9 hb d6_advance_19 (by decide) (fun hc19 => ?_) (fun hc19 => ?_)
    · have e := ce_if1 e hc19
      exact hx  h _ _ _ hH (lv_sub hl [0] rfl) e
    · have e := ce_if0 e hc19
      refine lv_aload_n hx9 hb d6_advance_22 rfl (lv_at hl 0 rfl) ?_
      refine gf_6_12 C hH d6_advance_23 ?_
      refine lv_aload_n hx9 hb d6_advance_26 rfl (lv_at hl 0 rfl) ?_
      refine gf_6_22 C hH d6_advance_27 ?_
      obtain ⟨o30, eo30, e⟩ := ce_bd e
      refine ce_callV (As := [.int (h 1 2)]) (rest := []) C (ce_sok aK aV B0) hH (c7_byteAt l D ad cA aK aV B0 C.2.2.2.2.2.2.1 F (h 1 2)  h o30 eo30) lo_2.1 lo_2.2.choose_spec rfl rfl mc7_byteAt ml_6_44 mi7_byteAt ms7_byteAt mI_7 (n := 1) (by decide) rfl ⟨Nat.le_of_ble_eq_true rfl, Nat.le_of_ble_eq_true rfl⟩ ⟨Nat.le_of_ble_eq_true rfl, Nat.le_of_ble_eq_true rfl⟩ hl.1 rfl (Nat.le_of_ble_eq_true rfl) d6_advance_30 (fun H locs hH => ?_)
      refine W.eq (g2 := F0 m 33 ls [.int o30.1]) rfl ?_
      obtain ⟨o33, eo33, e⟩ := ce_bd e
      refine ce_callS (As := [.int o30.1]) (rest := []) C (ce_sok aK aV B0) hH (c6_isBlank l D ad cA aK aV B0 C.2.2.2.2.2.2.1 F o30.1  o30.2 o33 eo33) mc6_isBlank ml_6_48 mt6_isBlank mI_6 (n := 1) (by decide) rfl ⟨Nat.le_of_ble_eq_true rfl, Nat.le_of_ble_eq_true rfl⟩ ⟨Nat.le_of_ble_eq_true rfl, Nat.le_of_ble_eq_true rfl⟩ hl.1 rfl (Nat.le_of_ble_eq_true rfl) d6_advance_33 (fun H locs hH => ?_)
      refine W.eq (g2 := F0 m 36 ls [.int o33.1]) rfl ?_
      refine lv_if_eq (tgt := 52) hx9 hb d6_advance_36 (by decide) (fun hc36 => ?_) (fun hc36 => ?_)
      · have e := ce_if1 e hc36
        exact hx  o33.2 _ _ _ hH (lv_sub hl [0] rfl) e
      · have e := ce_if0 e hc36
        refine lv_aload_n hx9 hb d6_advance_39 rfl (lv_at hl 0 rfl) ?_
        refine lv_dup hx9 hb d6_advance_40 rfl ?_
        refine gf_6_22 C hH d6_advance_41 ?_
        refine lv_iconst (v := (1 : Int32)) hx9 hb d6_advance_44 (by decide) ?_
        refine lv_iadd hx9 hb d6_advance_45 ?_
        refine pf_6_22 C hH d6_advance_46 (fun H locs hH => ?_)
        obtain ⟨h_46, eh_46, e⟩ := ce_nmE e
        rw [← eh_46] at hH
        refine lv_goto (tgt := 8) hx9 hb d6_advance_49 (by decide) ?_
        exact ih  h_46 _ _ _ hH (lv_sub hl [0] rfl) e
def f6_advance_b110 (F : Nat)  (h : Hp) : Option ((Hp) ⊕ (Hp)) :=
  if (h 2 1) ≤ (h 1 3) then
    some (.inr h)
  else
    Option.bind (f7_byteAt F (h 1 3) h) (fun o132 =>
      Option.bind (f6_kindOf F o132.1 o132.2) (fun o135 =>
        if o135.1 = (o135.2 1 1) then
          ce_nm (hp_up o135.2 1 3 ((o135.2 1 3) + (1 : Int32))) (fun h_152 =>
            some (.inl h_152))
        else
          some (.inr o135.2)))
set_option maxRecDepth 20000 in
theorem l6_advance_110 (C : ce_Cx p s m args c meth b6_advance 2 none cn_6 D ad cA B0 (ce_St aK aV B0)) (F : Nat)   (r : Hp) (g : (Hp) → Option (Hp)) (hx : ∀  (h : Hp) (H : Heap) (locs : List Loc) (ls : Array Slot), ce_H D ad cA B0 [] s h H locs → lv_has ls 2 [] → g h = some r → W p l e0 { frames := 1, cells := 0, slots := 0, locals := 21 } s m args below meth c H locs 0 0 (MQ below (ce_Q D ad cA B0 (ce_St aK aV B0) none r) args s 0 0 (fun q => B0 ≤ q)) (F0 m 158 ls [])) : ∀ (n : Nat)  (h : Hp) (H : Heap) (locs : List Loc) (ls : Array Slot), ce_H D ad cA B0 [] s h H locs → lv_has ls 2 [(0, .ref (ad 1))] → Option.bind (ce_it (fun (st : Hp) => f6_advance_b110 F  st) n h) g = some r → W p l e0 { frames := 1, cells := 0, slots := 0, locals := 21 } s m args below meth c H locs 0 0 (MQ below (ce_Q D ad cA B0 (ce_St aK aV B0) none r) args s 0 0 (fun q => B0 ≤ q)) (F0 m 110 ls []) := by
  intro n
  induction n with
  | zero =>
    intro  h H locs ls hH hl e
    exact absurd e (fun z => by cases z)
  | succ n ih =>
    intro  h H locs ls hH hl e
    have hx9 := C.1
    have hb := C.2.1
    have e : Option.bind (f6_advance_b110 F   h) _ = some r := ce_it_bd e
    unfold f6_advance_b110 at e
    refine lv_aload_n hx9 hb d6_advance_110 rfl (lv_at hl 0 rfl) ?_
    refine gf_6_25 C hH d6_advance_111 ?_
    refine lv_aload_n hx9 hb d6_advance_114 rfl (lv_at hl 0 rfl) ?_
    refine gf_6_12 C hH d6_advance_115 ?_
    refine gf_6_41 C hH d6_advance_118 ?_
    refine lv_icmp_ge (tgt := 158) hx9 hb d6_advance_121 (by decide) (fun hc121 => ?_) (fun hc121 => ?_)
    · have e := ce_if1 e hc121
      exact hx  h _ _ _ hH (lv_sub hl [] rfl) e
    · have e := ce_if0 e hc121
      refine lv_aload_n hx9 hb d6_advance_124 rfl (lv_at hl 0 rfl) ?_
      refine gf_6_12 C hH d6_advance_125 ?_
      refine lv_aload_n hx9 hb d6_advance_128 rfl (lv_at hl 0 rfl) ?_
      refine gf_6_25 C hH d6_advance_129 ?_
      obtain ⟨o132, eo132, e⟩ := ce_bd e
      refine ce_callV (As := [.int (h 1 3)]) (rest := []) C (ce_sok aK aV B0) hH (c7_byteAt l D ad cA aK aV B0 C.2.2.2.2.2.2.1 F (h 1 3)  h o132 eo132) lo_2.1 lo_2.2.choose_spec rfl rfl mc7_byteAt ml_6_44 mi7_byteAt ms7_byteAt mI_7 (n := 1) (by decide) rfl ⟨Nat.le_of_ble_eq_true rfl, Nat.le_of_ble_eq_true rfl⟩ ⟨Nat.le_of_ble_eq_true rfl, Nat.le_of_ble_eq_true rfl⟩ hl.1 rfl (Nat.le_of_ble_eq_true rfl) d6_advance_132 (fun H locs hH => ?_)
      refine W.eq (g2 := F0 m 135 ls [.int o132.1]) rfl ?_
      obtain ⟨o135, eo135, e⟩ := ce_bd e
      refine ce_callS (As := [.int o132.1]) (rest := []) C (ce_sok aK aV B0) hH (c6_kindOf l D ad cA aK aV B0 C.2.2.2.2.2.2.1 F o132.1  o132.2 o135 eo135) mc6_kindOf ml_6_52 mt6_kindOf mI_6 (n := 1) (by decide) rfl ⟨Nat.le_of_ble_eq_true rfl, Nat.le_of_ble_eq_true rfl⟩ ⟨Nat.le_of_ble_eq_true rfl, Nat.le_of_ble_eq_true rfl⟩ hl.1 rfl (Nat.le_of_ble_eq_true rfl) d6_advance_135 (fun H locs hH => ?_)
      refine W.eq (g2 := F0 m 138 ls [.int o135.1]) rfl ?_
      refine lv_aload_n hx9 hb d6_advance_138 rfl (lv_at hl 0 rfl) ?_
      refine gf_6_18 C hH d6_advance_139 ?_
      refine lv_icmp_ne (tgt := 158) hx9 hb d6_advance_142 (by decide) (fun hc142 => ?_) (fun hc142 => ?_)
      · have e := ce_if0 e hc142
        exact hx  o135.2 _ _ _ hH (lv_sub hl [] rfl) e
      · have e := ce_if1 e hc142
        refine lv_aload_n hx9 hb d6_advance_145 rfl (lv_at hl 0 rfl) ?_
        refine lv_dup hx9 hb d6_advance_146 rfl ?_
        refine gf_6_25 C hH d6_advance_147 ?_
        refine lv_iconst (v := (1 : Int32)) hx9 hb d6_advance_150 (by decide) ?_
        refine lv_iadd hx9 hb d6_advance_151 ?_
        refine pf_6_25 C hH d6_advance_152 (fun H locs hH => ?_)
        obtain ⟨h_152, eh_152, e⟩ := ce_nmE e
        rw [← eh_152] at hH
        refine lv_goto (tgt := 110) hx9 hb d6_advance_155 (by decide) ?_
        exact ih  h_152 _ _ _ hH (lv_sub hl [0] rfl) e
def f6_advance (F : Nat)  (h : Hp) : Option (Hp) :=
  ce_nm (hp_up h 1 2 (h 1 3)) (fun h_5 =>
    Option.bind (ce_it (fun (st : Hp) => f6_advance_b8 F  st) F h_5) (fun o8 =>
      Option.bind (f7_byteAt F (o8 1 2) o8) (fun o60 =>
        Option.bind (f6_kindOf F o60.1 o60.2) (fun o66 =>
          ce_nm (hp_up o66.2 1 1 o66.1) (fun h_69 =>
            if o60.1 = (-1 : Int32) then
              ce_nm (hp_up h_69 1 3 (h_69 1 2)) (fun h_91 =>
                if (h_91 1 1) = (1 : Int32) then
                  Option.bind (ce_it (fun (st : Hp) => f6_advance_b110 F  st) F h_91) (fun o110 =>
                    some o110)
                else
                  if (h_91 1 1) = (2 : Int32) then
                    Option.bind (ce_it (fun (st : Hp) => f6_advance_b110 F  st) F h_91) (fun o110 =>
                      some o110)
                  else
                    some h_91)
            else
              ce_nm (hp_up h_69 1 3 ((h_69 1 2) + (1 : Int32))) (fun h_91 =>
                if (h_91 1 1) = (1 : Int32) then
                  Option.bind (ce_it (fun (st : Hp) => f6_advance_b110 F  st) F h_91) (fun o110 =>
                    some o110)
                else
                  if (h_91 1 1) = (2 : Int32) then
                    Option.bind (ce_it (fun (st : Hp) => f6_advance_b110 F  st) F h_91) (fun o110 =>
                      some o110)
                  else
                    some h_91))))))
set_option maxRecDepth 20000 in
theorem c6_advance (l : Launch) (D : va_G) (ad : Nat → Nat) (cA : Nat → ClassId) (aK aV : Nat → Nat) (B0 : Nat) (hA : ce_Ad ad B0) (F : Nat)   (h : Hp) (r : Hp) (e : f6_advance F  h = some r) : ce_Ct l D ad cA B0 (ce_St aK aV B0) y6_advance b6_advance 2 none 1 21 0 0 [.ref (ad 1)] h none r := by
  refine ce_enter hA (by decide) rfl (Nat.le_of_ble_eq_true rfl) (fun p e0 s m below meth c ls C hH hl => ?_)
  have hl : lv_has ls 2 [(0, .ref (ad 1))] := hl
  have hx := C.1
  have hb := C.2.1
  have e : Option.bind _ some = some r := (congrArg (fun z => Option.bind z some) e).trans rfl
  unfold f6_advance at e
  refine lv_aload_n hx hb d6_advance_0 rfl (lv_at hl 0 rfl) ?_
  refine lv_aload_n hx hb d6_advance_1 rfl (lv_at hl 0 rfl) ?_
  refine gf_6_25 C hH d6_advance_2 ?_
  refine pf_6_22 C hH d6_advance_5 (fun H locs hH => ?_)
  obtain ⟨h_5, eh_5, e⟩ := ce_nmE e
  rw [← eh_5] at hH
  refine l6_advance_8 C F   r _ (fun  h_8 H locs ls hH hl e => ?_) F  h_5 _ _ _ hH (lv_sub hl [0] rfl) (ce_as e)
  try dsimp only at e
  refine lv_aload_n hx hb d6_advance_52 rfl (lv_at hl 0 rfl) ?_
  refine gf_6_12 C hH d6_advance_53 ?_
  refine lv_aload_n hx hb d6_advance_56 rfl (lv_at hl 0 rfl) ?_
  refine gf_6_22 C hH d6_advance_57 ?_
  obtain ⟨o60, eo60, e⟩ := ce_bd e
  refine ce_callV (As := [.int (h_8 1 2)]) (rest := []) C (ce_sok aK aV B0) hH (c7_byteAt l D ad cA aK aV B0 C.2.2.2.2.2.2.1 F (h_8 1 2)  h_8 o60 eo60) lo_2.1 lo_2.2.choose_spec rfl rfl mc7_byteAt ml_6_44 mi7_byteAt ms7_byteAt mI_7 (n := 1) (by decide) rfl ⟨Nat.le_of_ble_eq_true rfl, Nat.le_of_ble_eq_true rfl⟩ ⟨Nat.le_of_ble_eq_true rfl, Nat.le_of_ble_eq_true rfl⟩ hl.1 rfl (Nat.le_of_ble_eq_true rfl) d6_advance_60 (fun H locs hH => ?_)
  refine W.eq (g2 := F0 m 63 ls [.int o60.1]) rfl ?_
  refine lv_istore_n (lv' := [(1, .int o60.1), (0, .ref (ad 1))]) hx hb d6_advance_63 rfl hl (by decide) rfl (fun ls hl => ?_)
  refine lv_aload_n hx hb d6_advance_64 rfl (lv_at hl 1 rfl) ?_
  refine lv_iload_n hx hb d6_advance_65 rfl (lv_at hl 0 rfl) ?_
  obtain ⟨o66, eo66, e⟩ := ce_bd e
  refine ce_callS (As := [.int o60.1]) (rest := [.ref (ad 1)]) C (ce_sok aK aV B0) hH (c6_kindOf l D ad cA aK aV B0 C.2.2.2.2.2.2.1 F o60.1  o60.2 o66 eo66) mc6_kindOf ml_6_52 mt6_kindOf mI_6 (n := 1) (by decide) rfl ⟨Nat.le_of_ble_eq_true rfl, Nat.le_of_ble_eq_true rfl⟩ ⟨Nat.le_of_ble_eq_true rfl, Nat.le_of_ble_eq_true rfl⟩ hl.1 rfl (Nat.le_of_ble_eq_true rfl) d6_advance_66 (fun H locs hH => ?_)
  refine W.eq (g2 := F0 m 69 ls [.int o66.1, .ref (ad 1)]) rfl ?_
  refine pf_6_18 C hH d6_advance_69 (fun H locs hH => ?_)
  obtain ⟨h_69, eh_69, e⟩ := ce_nmE e
  rw [← eh_69] at hH
  refine lv_aload_n hx hb d6_advance_72 rfl (lv_at hl 1 rfl) ?_
  refine lv_iload_n hx hb d6_advance_73 rfl (lv_at hl 0 rfl) ?_
  refine lv_iconst (v := (-1 : Int32)) hx hb d6_advance_74 (by decide) ?_
  refine lv_icmp_ne (tgt := 85) hx hb d6_advance_75 (by decide) (fun hc75 => ?_) (fun hc75 => ?_)
  · have e := ce_if0 e hc75
    refine lv_aload_n hx hb d6_advance_85 rfl (lv_at hl 1 rfl) ?_
    refine gf_6_22 C hH d6_advance_86 ?_
    refine lv_iconst (v := (1 : Int32)) hx hb d6_advance_89 (by decide) ?_
    refine lv_iadd hx hb d6_advance_90 ?_
    refine pf_6_25 C hH d6_advance_91 (fun H locs hH => ?_)
    obtain ⟨h_91, eh_91, e⟩ := ce_nmE e
    rw [← eh_91] at hH
    refine lv_aload_n hx hb d6_advance_94 rfl (lv_at hl 1 rfl) ?_
    refine gf_6_18 C hH d6_advance_95 ?_
    refine lv_iconst (v := (1 : Int32)) hx hb d6_advance_98 (by decide) ?_
    refine lv_icmp_eq (tgt := 110) hx hb d6_advance_99 (by decide) (fun hc99 => ?_) (fun hc99 => ?_)
    · have e := ce_if1 e hc99
      refine l6_advance_110 C F   r _ (fun  h_110 H locs ls hH hl e => ?_) F  h_91 _ _ _ hH (lv_sub hl [1] rfl) (ce_as e)
      try dsimp only at e
      exact ce_vret C (ce_sok aK aV B0) hH (Option.some.inj e) d6_advance_158
    · have e := ce_if0 e hc99
      refine lv_aload_n hx hb d6_advance_102 rfl (lv_at hl 1 rfl) ?_
      refine gf_6_18 C hH d6_advance_103 ?_
      refine lv_iconst (v := (2 : Int32)) hx hb d6_advance_106 (by decide) ?_
      refine lv_icmp_ne (tgt := 158) hx hb d6_advance_107 (by decide) (fun hc107 => ?_) (fun hc107 => ?_)
      · have e := ce_if0 e hc107
        exact ce_vret C (ce_sok aK aV B0) hH (Option.some.inj e) d6_advance_158
      · have e := ce_if1 e hc107
        refine l6_advance_110 C F   r _ (fun  h_110 H locs ls hH hl e => ?_) F  h_91 _ _ _ hH (lv_sub hl [1] rfl) (ce_as e)
        try dsimp only at e
        exact ce_vret C (ce_sok aK aV B0) hH (Option.some.inj e) d6_advance_158
  · have e := ce_if1 e hc75
    refine lv_aload_n hx hb d6_advance_78 rfl (lv_at hl 1 rfl) ?_
    refine gf_6_22 C hH d6_advance_79 ?_
    refine lv_goto (tgt := 91) hx hb d6_advance_82 (by decide) ?_
    refine pf_6_25 C hH d6_advance_91 (fun H locs hH => ?_)
    obtain ⟨h_91, eh_91, e⟩ := ce_nmE e
    rw [← eh_91] at hH
    refine lv_aload_n hx hb d6_advance_94 rfl (lv_at hl 1 rfl) ?_
    refine gf_6_18 C hH d6_advance_95 ?_
    refine lv_iconst (v := (1 : Int32)) hx hb d6_advance_98 (by decide) ?_
    refine lv_icmp_eq (tgt := 110) hx hb d6_advance_99 (by decide) (fun hc99 => ?_) (fun hc99 => ?_)
    · have e := ce_if1 e hc99
      refine l6_advance_110 C F   r _ (fun  h_110 H locs ls hH hl e => ?_) F  h_91 _ _ _ hH (lv_sub hl [1] rfl) (ce_as e)
      try dsimp only at e
      exact ce_vret C (ce_sok aK aV B0) hH (Option.some.inj e) d6_advance_158
    · have e := ce_if0 e hc99
      refine lv_aload_n hx hb d6_advance_102 rfl (lv_at hl 1 rfl) ?_
      refine gf_6_18 C hH d6_advance_103 ?_
      refine lv_iconst (v := (2 : Int32)) hx hb d6_advance_106 (by decide) ?_
      refine lv_icmp_ne (tgt := 158) hx hb d6_advance_107 (by decide) (fun hc107 => ?_) (fun hc107 => ?_)
      · have e := ce_if0 e hc107
        exact ce_vret C (ce_sok aK aV B0) hH (Option.some.inj e) d6_advance_158
      · have e := ce_if1 e hc107
        refine l6_advance_110 C F   r _ (fun  h_110 H locs ls hH hl e => ?_) F  h_91 _ _ _ hH (lv_sub hl [1] rfl) (ce_as e)
        try dsimp only at e
        exact ce_vret C (ce_sok aK aV B0) hH (Option.some.inj e) d6_advance_158
abbrev b6_begin : ByteArray := prog_8_method_2_code
def y6_begin : MethodName := ⟨cn_6, "begin", "()V"⟩
theorem d6_begin_0 : decode b6_begin 0 = .ok (.aload_n 0, 1) := by decide +kernel
theorem d6_begin_1 : decode b6_begin 1 = .ok (.iconst 0, 1) := by decide +kernel
theorem d6_begin_2 : decode b6_begin 2 = .ok (.putfield 28, 3) := by decide +kernel
theorem d6_begin_5 : decode b6_begin 5 = .ok (.aload_n 0, 1) := by decide +kernel
theorem d6_begin_6 : decode b6_begin 6 = .ok (.iconst (-1), 1) := by decide +kernel
theorem d6_begin_7 : decode b6_begin 7 = .ok (.putfield 31, 3) := by decide +kernel
theorem d6_begin_10 : decode b6_begin 10 = .ok (.aload_n 0, 1) := by decide +kernel
theorem d6_begin_11 : decode b6_begin 11 = .ok (.iconst 0, 1) := by decide +kernel
theorem d6_begin_12 : decode b6_begin 12 = .ok (.putfield 25, 3) := by decide +kernel
theorem d6_begin_15 : decode b6_begin 15 = .ok (.aload_n 0, 1) := by decide +kernel
theorem d6_begin_16 : decode b6_begin 16 = .ok (.invokevirtual 34, 3) := by decide +kernel
theorem d6_begin_19 : decode b6_begin 19 = .ok (.return_, 1) := by decide +kernel
theorem fl_6_28 : Cond.fieldLink cn_6 28 (ft_6 4).1 (ft_6 4).2.1 (ft_6 4).2.2.1 ∈ ce_cm := ce_cm_of (List.mem_of_getElem? (i := 152) (by decide +kernel)) (by decide +kernel)
theorem gf_6_28 (C : ce_Cx p s m args c meth cc nL ret cn_6 D ad cA B0 (ce_St aK aV B0)) (hH : ce_H D ad cA B0 X s h H locs) (hdg : decode cc pc = .ok (.getfield 28, 3)) (kk : W p l e0 R s m args below meth c H locs cells slots Q (F0 m (pc + 3) ls (.int (h 1 4) :: rest))) : W p l e0 R s m args below meth c H locs cells slots Q (F0 m pc ls (.ref (ad 1) :: rest)) := by
  exact ce_get C hH (k := 1) (ci := 6) (j := 4) (N := 6) (sj := none) (by decide) rfl rfl fw_6 (by decide) fl_6_28 rfl hdg kk
theorem pf_6_28 (C : ce_Cx p s m args c meth cc nL ret cn_6 D ad cA B0 (ce_St aK aV B0)) (hH : ce_H D ad cA B0 X s h H locs) {x : Int32} (hdg : decode cc pc = .ok (.putfield 28, 3)) (kk : ∀ (H1 : Heap) (locs1 : List Loc), ce_H D ad cA B0 X s (hp_up h 1 4 x) H1 locs1 → W p l e0 R s m args below meth c H1 locs1 cells slots Q (F0 m (pc + 3) ls rest)) : W p l e0 R s m args below meth c H locs cells slots Q (F0 m pc ls (.int x :: .ref (ad 1) :: rest)) := by
  exact ce_put C hH (k := 1) (ci := 6) (j := 4) (N := 6) (fy := fy_6) (sj := none) x (by decide) rfl rfl fw_6 fo_6 fn_6 (by decide) fl_6_28 rfl rfl (v := .int x) (by simp [ce_slot, upd]) rfl rfl hdg kk
theorem fl_6_31 : Cond.fieldLink cn_6 31 (ft_6 5).1 (ft_6 5).2.1 (ft_6 5).2.2.1 ∈ ce_cm := ce_cm_of (List.mem_of_getElem? (i := 154) (by decide +kernel)) (by decide +kernel)
theorem gf_6_31 (C : ce_Cx p s m args c meth cc nL ret cn_6 D ad cA B0 (ce_St aK aV B0)) (hH : ce_H D ad cA B0 X s h H locs) (hdg : decode cc pc = .ok (.getfield 31, 3)) (kk : W p l e0 R s m args below meth c H locs cells slots Q (F0 m (pc + 3) ls (.int (h 1 5) :: rest))) : W p l e0 R s m args below meth c H locs cells slots Q (F0 m pc ls (.ref (ad 1) :: rest)) := by
  exact ce_get C hH (k := 1) (ci := 6) (j := 5) (N := 6) (sj := none) (by decide) rfl rfl fw_6 (by decide) fl_6_31 rfl hdg kk
theorem pf_6_31 (C : ce_Cx p s m args c meth cc nL ret cn_6 D ad cA B0 (ce_St aK aV B0)) (hH : ce_H D ad cA B0 X s h H locs) {x : Int32} (hdg : decode cc pc = .ok (.putfield 31, 3)) (kk : ∀ (H1 : Heap) (locs1 : List Loc), ce_H D ad cA B0 X s (hp_up h 1 5 x) H1 locs1 → W p l e0 R s m args below meth c H1 locs1 cells slots Q (F0 m (pc + 3) ls rest)) : W p l e0 R s m args below meth c H locs cells slots Q (F0 m pc ls (.int x :: .ref (ad 1) :: rest)) := by
  exact ce_put C hH (k := 1) (ci := 6) (j := 5) (N := 6) (fy := fy_6) (sj := none) x (by decide) rfl rfl fw_6 fo_6 fn_6 (by decide) fl_6_31 rfl rfl (v := .int x) (by simp [ce_slot, upd]) rfl rfl hdg kk
theorem lo_1 : 1 < 96 ∧ ∃ sl, ce_lay 1 = .inr (6, sl) := ⟨by decide, _, rfl⟩
theorem mc6_advance : Cond.code y6_advance b6_advance 2 none ∈ ce_cm := ce_cm_of (List.mem_of_getElem? (i := 508) (by decide +kernel)) (by decide +kernel)
theorem ml_6_34 : Cond.methodLink cn_6 34 y6_advance ∈ ce_cm := ce_cm_of (List.mem_of_getElem? (i := 505) (by decide +kernel)) (by decide +kernel)
theorem mi6_advance : Cond.instanceMethod y6_advance ∈ ce_cm := ce_cm_of (List.mem_of_getElem? (i := 506) (by decide +kernel)) (by decide +kernel)
theorem ms6_advance : Cond.selects cn_6 y6_advance y6_advance ∈ ce_cm := ce_cm_of (List.mem_of_getElem? (i := 507) (by decide +kernel)) (by decide +kernel)
def f6_begin (F : Nat)  (h : Hp) : Option (Hp) :=
  ce_nm (hp_up h 1 4 (0 : Int32)) (fun h_2 =>
    ce_nm (hp_up h_2 1 5 (-1 : Int32)) (fun h_7 =>
      ce_nm (hp_up h_7 1 3 (0 : Int32)) (fun h_12 =>
        Option.bind (f6_advance F  h_12) (fun o16 =>
          some o16))))
set_option maxRecDepth 20000 in
theorem c6_begin (l : Launch) (D : va_G) (ad : Nat → Nat) (cA : Nat → ClassId) (aK aV : Nat → Nat) (B0 : Nat) (hA : ce_Ad ad B0) (F : Nat)   (h : Hp) (r : Hp) (e : f6_begin F  h = some r) : ce_Ct l D ad cA B0 (ce_St aK aV B0) y6_begin b6_begin 1 none 2 42 0 0 [.ref (ad 1)] h none r := by
  refine ce_enter hA (by decide) rfl (Nat.le_of_ble_eq_true rfl) (fun p e0 s m below meth c ls C hH hl => ?_)
  have hl : lv_has ls 1 [(0, .ref (ad 1))] := hl
  have hx := C.1
  have hb := C.2.1
  have e : Option.bind _ some = some r := (congrArg (fun z => Option.bind z some) e).trans rfl
  unfold f6_begin at e
  refine lv_aload_n hx hb d6_begin_0 rfl (lv_at hl 0 rfl) ?_
  refine lv_iconst (v := (0 : Int32)) hx hb d6_begin_1 (by decide) ?_
  refine pf_6_28 C hH d6_begin_2 (fun H locs hH => ?_)
  obtain ⟨h_2, eh_2, e⟩ := ce_nmE e
  rw [← eh_2] at hH
  refine lv_aload_n hx hb d6_begin_5 rfl (lv_at hl 0 rfl) ?_
  refine lv_iconst (v := (-1 : Int32)) hx hb d6_begin_6 (by decide) ?_
  refine pf_6_31 C hH d6_begin_7 (fun H locs hH => ?_)
  obtain ⟨h_7, eh_7, e⟩ := ce_nmE e
  rw [← eh_7] at hH
  refine lv_aload_n hx hb d6_begin_10 rfl (lv_at hl 0 rfl) ?_
  refine lv_iconst (v := (0 : Int32)) hx hb d6_begin_11 (by decide) ?_
  refine pf_6_25 C hH d6_begin_12 (fun H locs hH => ?_)
  obtain ⟨h_12, eh_12, e⟩ := ce_nmE e
  rw [← eh_12] at hH
  refine lv_aload_n hx hb d6_begin_15 rfl (lv_at hl 0 rfl) ?_
  obtain ⟨o16, eo16, e⟩ := ce_bd e
  refine ce_callV (As := []) (rest := []) C (ce_sok aK aV B0) hH (c6_advance l D ad cA aK aV B0 C.2.2.2.2.2.2.1 F   h_12 o16 eo16) lo_1.1 lo_1.2.choose_spec rfl rfl mc6_advance ml_6_34 mi6_advance ms6_advance mI_6 (n := 0) (by decide) rfl ⟨Nat.le_of_ble_eq_true rfl, Nat.le_of_ble_eq_true rfl⟩ ⟨Nat.le_of_ble_eq_true rfl, Nat.le_of_ble_eq_true rfl⟩ hl.1 rfl (Nat.le_of_ble_eq_true rfl) d6_begin_16 (fun H locs hH => ?_)
  refine W.eq (g2 := F0 m 19 ls []) rfl ?_
  exact ce_vret C (ce_sok aK aV B0) hH (Option.some.inj e) d6_begin_19
abbrev b6_isFine : ByteArray := prog_8_method_3_code
def y6_isFine : MethodName := ⟨cn_6, "isFine", "()Z"⟩
theorem d6_isFine_0 : decode b6_isFine 0 = .ok (.aload_n 0, 1) := by decide +kernel
theorem d6_isFine_1 : decode b6_isFine 1 = .ok (.getfield 28, 3) := by decide +kernel
theorem d6_isFine_4 : decode b6_isFine 4 = .ok (.ifCond .ne 7, 3) := by decide +kernel
theorem d6_isFine_7 : decode b6_isFine 7 = .ok (.iconst 1, 1) := by decide +kernel
theorem d6_isFine_8 : decode b6_isFine 8 = .ok (.goto 4, 3) := by decide +kernel
theorem d6_isFine_11 : decode b6_isFine 11 = .ok (.iconst 0, 1) := by decide +kernel
theorem d6_isFine_12 : decode b6_isFine 12 = .ok (.ireturn, 1) := by decide +kernel
def f6_isFine (F : Nat)  (h : Hp) : Option (Int32 × Hp) :=
  if (h 1 4) = 0 then
    some ((1 : Int32), h)
  else
    some ((0 : Int32), h)
set_option maxRecDepth 20000 in
theorem c6_isFine (l : Launch) (D : va_G) (ad : Nat → Nat) (cA : Nat → ClassId) (aK aV : Nat → Nat) (B0 : Nat) (hA : ce_Ad ad B0) (F : Nat)   (h : Hp) (r : Int32 × Hp) (e : f6_isFine F  h = some r) : ce_Ct l D ad cA B0 (ce_St aK aV B0) y6_isFine b6_isFine 1 (some .boolean) 0 0 0 0 [.ref (ad 1)] h (some (.int r.1)) r.2 := by
  refine ce_enter hA (by decide) rfl (Nat.le_of_ble_eq_true rfl) (fun p e0 s m below meth c ls C hH hl => ?_)
  have hl : lv_has ls 1 [(0, .ref (ad 1))] := hl
  have hx := C.1
  have hb := C.2.1
  have e : Option.bind _ some = some r := (congrArg (fun z => Option.bind z some) e).trans rfl
  unfold f6_isFine at e
  refine lv_aload_n hx hb d6_isFine_0 rfl (lv_at hl 0 rfl) ?_
  refine gf_6_28 C hH d6_isFine_1 ?_
  refine lv_if_ne (tgt := 11) hx hb d6_isFine_4 (by decide) (fun hc4 => ?_) (fun hc4 => ?_)
  · have e := ce_if0 e hc4
    refine lv_iconst (v := (0 : Int32)) hx hb d6_isFine_11 (by decide) ?_
    exact ce_zretE C (ce_sok aK aV B0) hH (Or.inl rfl) e d6_isFine_12
  · have e := ce_if1 e hc4
    refine lv_iconst (v := (1 : Int32)) hx hb d6_isFine_7 (by decide) ?_
    refine lv_goto (tgt := 12) hx hb d6_isFine_8 (by decide) ?_
    exact ce_zretE C (ce_sok aK aV B0) hH (Or.inr rfl) e d6_isFine_12
abbrev b6_goesOn : ByteArray := prog_8_method_4_code
def y6_goesOn : MethodName := ⟨cn_6, "goesOn", "()Z"⟩
theorem d6_goesOn_0 : decode b6_goesOn 0 = .ok (.aload_n 0, 1) := by decide +kernel
theorem d6_goesOn_1 : decode b6_goesOn 1 = .ok (.invokevirtual 37, 3) := by decide +kernel
theorem d6_goesOn_4 : decode b6_goesOn 4 = .ok (.ifCond .eq 14, 3) := by decide +kernel
theorem d6_goesOn_7 : decode b6_goesOn 7 = .ok (.aload_n 0, 1) := by decide +kernel
theorem d6_goesOn_8 : decode b6_goesOn 8 = .ok (.getfield 18, 3) := by decide +kernel
theorem d6_goesOn_11 : decode b6_goesOn 11 = .ok (.ifCond .eq 7, 3) := by decide +kernel
theorem d6_goesOn_14 : decode b6_goesOn 14 = .ok (.iconst 1, 1) := by decide +kernel
theorem d6_goesOn_15 : decode b6_goesOn 15 = .ok (.goto 4, 3) := by decide +kernel
theorem d6_goesOn_18 : decode b6_goesOn 18 = .ok (.iconst 0, 1) := by decide +kernel
theorem d6_goesOn_19 : decode b6_goesOn 19 = .ok (.ireturn, 1) := by decide +kernel
theorem mc6_isFine : Cond.code y6_isFine b6_isFine 1 (some .boolean) ∈ ce_cm := ce_cm_of (List.mem_of_getElem? (i := 526) (by decide +kernel)) (by decide +kernel)
theorem ml_6_37 : Cond.methodLink cn_6 37 y6_isFine ∈ ce_cm := ce_cm_of (List.mem_of_getElem? (i := 523) (by decide +kernel)) (by decide +kernel)
theorem mi6_isFine : Cond.instanceMethod y6_isFine ∈ ce_cm := ce_cm_of (List.mem_of_getElem? (i := 524) (by decide +kernel)) (by decide +kernel)
theorem ms6_isFine : Cond.selects cn_6 y6_isFine y6_isFine ∈ ce_cm := ce_cm_of (List.mem_of_getElem? (i := 525) (by decide +kernel)) (by decide +kernel)
def f6_goesOn (F : Nat)  (h : Hp) : Option (Int32 × Hp) :=
  Option.bind (f6_isFine F  h) (fun o1 =>
    if o1.1 = 0 then
      some ((0 : Int32), o1.2)
    else
      if (o1.2 1 1) = 0 then
        some ((0 : Int32), o1.2)
      else
        some ((1 : Int32), o1.2))
set_option maxRecDepth 20000 in
theorem c6_goesOn (l : Launch) (D : va_G) (ad : Nat → Nat) (cA : Nat → ClassId) (aK aV : Nat → Nat) (B0 : Nat) (hA : ce_Ad ad B0) (F : Nat)   (h : Hp) (r : Int32 × Hp) (e : f6_goesOn F  h = some r) : ce_Ct l D ad cA B0 (ce_St aK aV B0) y6_goesOn b6_goesOn 1 (some .boolean) 1 20 0 0 [.ref (ad 1)] h (some (.int r.1)) r.2 := by
  refine ce_enter hA (by decide) rfl (Nat.le_of_ble_eq_true rfl) (fun p e0 s m below meth c ls C hH hl => ?_)
  have hl : lv_has ls 1 [(0, .ref (ad 1))] := hl
  have hx := C.1
  have hb := C.2.1
  have e : Option.bind _ some = some r := (congrArg (fun z => Option.bind z some) e).trans rfl
  unfold f6_goesOn at e
  refine lv_aload_n hx hb d6_goesOn_0 rfl (lv_at hl 0 rfl) ?_
  obtain ⟨o1, eo1, e⟩ := ce_bd e
  refine ce_callV (As := []) (rest := []) C (ce_sok aK aV B0) hH (c6_isFine l D ad cA aK aV B0 C.2.2.2.2.2.2.1 F   h o1 eo1) lo_1.1 lo_1.2.choose_spec rfl rfl mc6_isFine ml_6_37 mi6_isFine ms6_isFine mI_6 (n := 0) (by decide) rfl ⟨Nat.le_of_ble_eq_true rfl, Nat.le_of_ble_eq_true rfl⟩ ⟨Nat.le_of_ble_eq_true rfl, Nat.le_of_ble_eq_true rfl⟩ hl.1 rfl (Nat.le_of_ble_eq_true rfl) d6_goesOn_1 (fun H locs hH => ?_)
  refine W.eq (g2 := F0 m 4 ls [.int o1.1]) rfl ?_
  refine lv_if_eq (tgt := 18) hx hb d6_goesOn_4 (by decide) (fun hc4 => ?_) (fun hc4 => ?_)
  · have e := ce_if1 e hc4
    refine lv_iconst (v := (0 : Int32)) hx hb d6_goesOn_18 (by decide) ?_
    exact ce_zretE C (ce_sok aK aV B0) hH (Or.inl rfl) e d6_goesOn_19
  · have e := ce_if0 e hc4
    refine lv_aload_n hx hb d6_goesOn_7 rfl (lv_at hl 0 rfl) ?_
    refine gf_6_18 C hH d6_goesOn_8 ?_
    refine lv_if_eq (tgt := 18) hx hb d6_goesOn_11 (by decide) (fun hc11 => ?_) (fun hc11 => ?_)
    · have e := ce_if1 e hc11
      refine lv_iconst (v := (0 : Int32)) hx hb d6_goesOn_18 (by decide) ?_
      exact ce_zretE C (ce_sok aK aV B0) hH (Or.inl rfl) e d6_goesOn_19
    · have e := ce_if0 e hc11
      refine lv_iconst (v := (1 : Int32)) hx hb d6_goesOn_14 (by decide) ?_
      refine lv_goto (tgt := 19) hx hb d6_goesOn_15 (by decide) ?_
      exact ce_zretE C (ce_sok aK aV B0) hH (Or.inr rfl) e d6_goesOn_19
abbrev b6_refuse : ByteArray := prog_8_method_5_code
def y6_refuse : MethodName := ⟨cn_6, "refuse", "(I)V"⟩
theorem d6_refuse_0 : decode b6_refuse 0 = .ok (.aload_n 0, 1) := by decide +kernel
theorem d6_refuse_1 : decode b6_refuse 1 = .ok (.invokevirtual 37, 3) := by decide +kernel
theorem d6_refuse_4 : decode b6_refuse 4 = .ok (.ifCond .eq 16, 3) := by decide +kernel
theorem d6_refuse_7 : decode b6_refuse 7 = .ok (.aload_n 0, 1) := by decide +kernel
theorem d6_refuse_8 : decode b6_refuse 8 = .ok (.iload_n 1, 1) := by decide +kernel
theorem d6_refuse_9 : decode b6_refuse 9 = .ok (.putfield 28, 3) := by decide +kernel
theorem d6_refuse_12 : decode b6_refuse 12 = .ok (.aload_n 0, 1) := by decide +kernel
theorem d6_refuse_13 : decode b6_refuse 13 = .ok (.aload_n 0, 1) := by decide +kernel
theorem d6_refuse_14 : decode b6_refuse 14 = .ok (.getfield 22, 3) := by decide +kernel
theorem d6_refuse_17 : decode b6_refuse 17 = .ok (.putfield 31, 3) := by decide +kernel
theorem d6_refuse_20 : decode b6_refuse 20 = .ok (.return_, 1) := by decide +kernel
def f6_refuse (F : Nat) (x1 : Int32) (h : Hp) : Option (Hp) :=
  Option.bind (f6_isFine F  h) (fun o1 =>
    if o1.1 = 0 then
      some o1.2
    else
      ce_nm (hp_up o1.2 1 4 x1) (fun h_9 =>
        ce_nm (hp_up h_9 1 5 (h_9 1 2)) (fun h_17 =>
          some h_17)))
set_option maxRecDepth 20000 in
theorem c6_refuse (l : Launch) (D : va_G) (ad : Nat → Nat) (cA : Nat → ClassId) (aK aV : Nat → Nat) (B0 : Nat) (hA : ce_Ad ad B0) (F : Nat) (x1 : Int32)  (h : Hp) (r : Hp) (e : f6_refuse F x1 h = some r) : ce_Ct l D ad cA B0 (ce_St aK aV B0) y6_refuse b6_refuse 2 none 1 20 0 0 [.ref (ad 1), .int x1] h none r := by
  refine ce_enter hA (by decide) rfl (Nat.le_of_ble_eq_true rfl) (fun p e0 s m below meth c ls C hH hl => ?_)
  have hl : lv_has ls 2 [(0, .ref (ad 1)), (1, .int x1)] := hl
  have hx := C.1
  have hb := C.2.1
  have e : Option.bind _ some = some r := (congrArg (fun z => Option.bind z some) e).trans rfl
  unfold f6_refuse at e
  refine lv_aload_n hx hb d6_refuse_0 rfl (lv_at hl 0 rfl) ?_
  obtain ⟨o1, eo1, e⟩ := ce_bd e
  refine ce_callV (As := []) (rest := []) C (ce_sok aK aV B0) hH (c6_isFine l D ad cA aK aV B0 C.2.2.2.2.2.2.1 F   h o1 eo1) lo_1.1 lo_1.2.choose_spec rfl rfl mc6_isFine ml_6_37 mi6_isFine ms6_isFine mI_6 (n := 0) (by decide) rfl ⟨Nat.le_of_ble_eq_true rfl, Nat.le_of_ble_eq_true rfl⟩ ⟨Nat.le_of_ble_eq_true rfl, Nat.le_of_ble_eq_true rfl⟩ hl.1 rfl (Nat.le_of_ble_eq_true rfl) d6_refuse_1 (fun H locs hH => ?_)
  refine W.eq (g2 := F0 m 4 ls [.int o1.1]) rfl ?_
  refine lv_if_eq (tgt := 20) hx hb d6_refuse_4 (by decide) (fun hc4 => ?_) (fun hc4 => ?_)
  · have e := ce_if1 e hc4
    exact ce_vret C (ce_sok aK aV B0) hH (Option.some.inj e) d6_refuse_20
  · have e := ce_if0 e hc4
    refine lv_aload_n hx hb d6_refuse_7 rfl (lv_at hl 0 rfl) ?_
    refine lv_iload_n hx hb d6_refuse_8 rfl (lv_at hl 1 rfl) ?_
    refine pf_6_28 C hH d6_refuse_9 (fun H locs hH => ?_)
    obtain ⟨h_9, eh_9, e⟩ := ce_nmE e
    rw [← eh_9] at hH
    refine lv_aload_n hx hb d6_refuse_12 rfl (lv_at hl 0 rfl) ?_
    refine lv_aload_n hx hb d6_refuse_13 rfl (lv_at hl 0 rfl) ?_
    refine gf_6_22 C hH d6_refuse_14 ?_
    refine pf_6_31 C hH d6_refuse_17 (fun H locs hH => ?_)
    obtain ⟨h_17, eh_17, e⟩ := ce_nmE e
    rw [← eh_17] at hH
    exact ce_vret C (ce_sok aK aV B0) hH (Option.some.inj e) d6_refuse_20
abbrev b6_isWord : ByteArray := prog_8_method_9_code
def y6_isWord : MethodName := ⟨cn_6, "isWord", "(Ljava/lang/String;)Z"⟩
theorem d6_isWord_0 : decode b6_isWord 0 = .ok (.aload_n 0, 1) := by decide +kernel
theorem d6_isWord_1 : decode b6_isWord 1 = .ok (.getfield 18, 3) := by decide +kernel
theorem d6_isWord_4 : decode b6_isWord 4 = .ok (.iconst 1, 1) := by decide +kernel
theorem d6_isWord_5 : decode b6_isWord 5 = .ok (.if_icmp .ne 19, 3) := by decide +kernel
theorem d6_isWord_8 : decode b6_isWord 8 = .ok (.aload_n 0, 1) := by decide +kernel
theorem d6_isWord_9 : decode b6_isWord 9 = .ok (.getfield 25, 3) := by decide +kernel
theorem d6_isWord_12 : decode b6_isWord 12 = .ok (.aload_n 0, 1) := by decide +kernel
theorem d6_isWord_13 : decode b6_isWord 13 = .ok (.getfield 22, 3) := by decide +kernel
theorem d6_isWord_16 : decode b6_isWord 16 = .ok (.isub, 1) := by decide +kernel
theorem d6_isWord_17 : decode b6_isWord 17 = .ok (.aload_n 1, 1) := by decide +kernel
theorem d6_isWord_18 : decode b6_isWord 18 = .ok (.invokevirtual 55, 3) := by decide +kernel
theorem d6_isWord_21 : decode b6_isWord 21 = .ok (.if_icmp .eq 5, 3) := by decide +kernel
theorem d6_isWord_24 : decode b6_isWord 24 = .ok (.iconst 0, 1) := by decide +kernel
theorem d6_isWord_25 : decode b6_isWord 25 = .ok (.ireturn, 1) := by decide +kernel
theorem d6_isWord_26 : decode b6_isWord 26 = .ok (.iconst 0, 1) := by decide +kernel
theorem d6_isWord_27 : decode b6_isWord 27 = .ok (.istore_n 2, 1) := by decide +kernel
theorem d6_isWord_28 : decode b6_isWord 28 = .ok (.iload_n 2, 1) := by decide +kernel
theorem d6_isWord_29 : decode b6_isWord 29 = .ok (.aload_n 1, 1) := by decide +kernel
theorem d6_isWord_30 : decode b6_isWord 30 = .ok (.invokevirtual 55, 3) := by decide +kernel
theorem d6_isWord_33 : decode b6_isWord 33 = .ok (.if_icmp .ge 32, 3) := by decide +kernel
theorem d6_isWord_36 : decode b6_isWord 36 = .ok (.aload_n 0, 1) := by decide +kernel
theorem d6_isWord_37 : decode b6_isWord 37 = .ok (.getfield 12, 3) := by decide +kernel
theorem d6_isWord_40 : decode b6_isWord 40 = .ok (.aload_n 0, 1) := by decide +kernel
theorem d6_isWord_41 : decode b6_isWord 41 = .ok (.getfield 22, 3) := by decide +kernel
theorem d6_isWord_44 : decode b6_isWord 44 = .ok (.iload_n 2, 1) := by decide +kernel
theorem d6_isWord_45 : decode b6_isWord 45 = .ok (.iadd, 1) := by decide +kernel
theorem d6_isWord_46 : decode b6_isWord 46 = .ok (.invokevirtual 44, 3) := by decide +kernel
theorem d6_isWord_49 : decode b6_isWord 49 = .ok (.aload_n 1, 1) := by decide +kernel
theorem d6_isWord_50 : decode b6_isWord 50 = .ok (.iload_n 2, 1) := by decide +kernel
theorem d6_isWord_51 : decode b6_isWord 51 = .ok (.invokevirtual 61, 3) := by decide +kernel
theorem d6_isWord_54 : decode b6_isWord 54 = .ok (.if_icmp .eq 5, 3) := by decide +kernel
theorem d6_isWord_57 : decode b6_isWord 57 = .ok (.iconst 0, 1) := by decide +kernel
theorem d6_isWord_58 : decode b6_isWord 58 = .ok (.ireturn, 1) := by decide +kernel
theorem d6_isWord_59 : decode b6_isWord 59 = .ok (.iinc 2 1, 3) := by decide +kernel
theorem d6_isWord_62 : decode b6_isWord 62 = .ok (.goto (-34), 3) := by decide +kernel
theorem d6_isWord_65 : decode b6_isWord 65 = .ok (.iconst 1, 1) := by decide +kernel
theorem d6_isWord_66 : decode b6_isWord 66 = .ok (.ireturn, 1) := by decide +kernel
theorem mcS_length : Cond.code yS_length bS_length 1 (some .int) ∈ ce_cm := ce_cm_of (List.mem_of_getElem? (i := 543) (by decide +kernel)) (by decide +kernel)
theorem ml_6_55 : Cond.methodLink cn_6 55 yS_length ∈ ce_cm := ce_cm_of (List.mem_of_getElem? (i := 540) (by decide +kernel)) (by decide +kernel)
theorem miS_length : Cond.instanceMethod yS_length ∈ ce_cm := ce_cm_of (List.mem_of_getElem? (i := 541) (by decide +kernel)) (by decide +kernel)
theorem msS_length : Cond.selects "java/lang/String" yS_length yS_length ∈ ce_cm := ce_cm_of (List.mem_of_getElem? (i := 542) (by decide +kernel)) (by decide +kernel)
theorem mI_S : Cond.initialized "java/lang/String" ∈ ce_cm := ce_cm_of (List.mem_of_getElem? (i := 104) (by decide +kernel)) (by decide +kernel)
theorem mcS_charAt : Cond.code yS_charAt bS_charAt 2 (some .char) ∈ ce_cm := ce_cm_of (List.mem_of_getElem? (i := 553) (by decide +kernel)) (by decide +kernel)
theorem ml_6_61 : Cond.methodLink cn_6 61 yS_charAt ∈ ce_cm := ce_cm_of (List.mem_of_getElem? (i := 550) (by decide +kernel)) (by decide +kernel)
theorem miS_charAt : Cond.instanceMethod yS_charAt ∈ ce_cm := ce_cm_of (List.mem_of_getElem? (i := 551) (by decide +kernel)) (by decide +kernel)
theorem msS_charAt : Cond.selects "java/lang/String" yS_charAt yS_charAt ∈ ce_cm := ce_cm_of (List.mem_of_getElem? (i := 552) (by decide +kernel)) (by decide +kernel)
def f6_isWord_b28 (F : Nat) (w1 : Nat) (x2 : Int32) (h : Hp) : Option ((Int32 × Hp) ⊕ ((Int32 × Hp) ⊕ (Hp))) :=
  if (ce_slen w1) ≤ x2 then
    some (.inr (.inr h))
  else
    Option.bind (f7_byteAt F ((h 1 2) + x2) h) (fun o46 =>
      if ce_in x2 (ce_lens.getD w1 0) = true then
        if o46.1 = (ce_chr w1 x2) then
          some (.inl (x2 + (1 : Int32), o46.2))
        else
          some (.inr (.inl ((0 : Int32), o46.2)))
      else none)
set_option maxRecDepth 20000 in
theorem l6_isWord_28 (C : ce_Cx p s m args c meth b6_isWord 3 (some .boolean) cn_6 D ad cA B0 (ce_St aK aV B0)) (F : Nat) (w1 : Nat) (hw1 : w1 < 9) (r : Int32 × Hp) (g : ((Int32 × Hp) ⊕ (Hp)) → Option (Int32 × Hp)) (hx : ∀  (h : Hp) (H : Heap) (locs : List Loc) (ls : Array Slot), ce_H D ad cA B0 [] s h H locs → lv_has ls 3 [] → g (.inr h) = some r → W p l e0 { frames := 9, cells := 0, slots := 0, locals := 221 } s m args below meth c H locs 0 0 (MQ below (ce_Q D ad cA B0 (ce_St aK aV B0) (some (.int r.1)) r.2) args s 0 0 (fun q => B0 ≤ q)) (F0 m 65 ls [])) (he : ∀ z, g (.inl z) = some z) : ∀ (n : Nat) (x2 : Int32) (h : Hp) (H : Heap) (locs : List Loc) (ls : Array Slot), ce_H D ad cA B0 [] s h H locs → lv_has ls 3 [(0, .ref (ad 1)), (1, .ref (aK w1)), (2, .int x2)] → Option.bind (ce_it (fun (st : Int32 × Hp) => f6_isWord_b28 F w1 st.1 st.2) n (x2, h)) g = some r → W p l e0 { frames := 9, cells := 0, slots := 0, locals := 221 } s m args below meth c H locs 0 0 (MQ below (ce_Q D ad cA B0 (ce_St aK aV B0) (some (.int r.1)) r.2) args s 0 0 (fun q => B0 ≤ q)) (F0 m 28 ls []) := by
  intro n
  induction n with
  | zero =>
    intro x2 h H locs ls hH hl e
    exact absurd e (fun z => by cases z)
  | succ n ih =>
    intro x2 h H locs ls hH hl e
    have hx9 := C.1
    have hb := C.2.1
    have e : Option.bind (f6_isWord_b28 F w1 x2 h) _ = some r := ce_it_bd e
    unfold f6_isWord_b28 at e
    refine lv_iload_n hx9 hb d6_isWord_28 rfl (lv_at hl 2 rfl) ?_
    refine lv_aload_n hx9 hb d6_isWord_29 rfl (lv_at hl 1 rfl) ?_
    refine ce_callT (As := []) (rest := [.int x2]) C hH (cS_length l D ad cA aK aV B0 C.2.2.2.2.2.2.1 w1 hw1 h) hw1 rfl mcS_length ml_6_55 miS_length msS_length mI_S (n := 0) (by decide) rfl ⟨Nat.le_of_ble_eq_true rfl, Nat.le_of_ble_eq_true rfl⟩ ⟨Nat.le_of_ble_eq_true rfl, Nat.le_of_ble_eq_true rfl⟩ hl.1 rfl (Nat.le_of_ble_eq_true rfl) d6_isWord_30 (fun H locs hH => ?_)
    refine W.eq (g2 := F0 m 33 ls [.int (ce_slen w1), .int x2]) rfl ?_
    refine lv_icmp_ge (tgt := 65) hx9 hb d6_isWord_33 (by decide) (fun hc33 => ?_) (fun hc33 => ?_)
    · have e := ce_if1 e hc33
      exact hx  h _ _ _ hH (lv_sub hl [] rfl) e
    · have e := ce_if0 e hc33
      refine lv_aload_n hx9 hb d6_isWord_36 rfl (lv_at hl 0 rfl) ?_
      refine gf_6_12 C hH d6_isWord_37 ?_
      refine lv_aload_n hx9 hb d6_isWord_40 rfl (lv_at hl 0 rfl) ?_
      refine gf_6_22 C hH d6_isWord_41 ?_
      refine lv_iload_n hx9 hb d6_isWord_44 rfl (lv_at hl 2 rfl) ?_
      refine lv_iadd hx9 hb d6_isWord_45 ?_
      obtain ⟨o46, eo46, e⟩ := ce_bd e
      refine ce_callV (As := [.int ((h 1 2) + x2)]) (rest := []) C (ce_sok aK aV B0) hH (c7_byteAt l D ad cA aK aV B0 C.2.2.2.2.2.2.1 F ((h 1 2) + x2)  h o46 eo46) lo_2.1 lo_2.2.choose_spec rfl rfl mc7_byteAt ml_6_44 mi7_byteAt ms7_byteAt mI_7 (n := 1) (by decide) rfl ⟨Nat.le_of_ble_eq_true rfl, Nat.le_of_ble_eq_true rfl⟩ ⟨Nat.le_of_ble_eq_true rfl, Nat.le_of_ble_eq_true rfl⟩ hl.1 rfl (Nat.le_of_ble_eq_true rfl) d6_isWord_46 (fun H locs hH => ?_)
      refine W.eq (g2 := F0 m 49 ls [.int o46.1]) rfl ?_
      refine lv_aload_n hx9 hb d6_isWord_49 rfl (lv_at hl 1 rfl) ?_
      refine lv_iload_n hx9 hb d6_isWord_50 rfl (lv_at hl 2 rfl) ?_
      obtain ⟨hi51, e⟩ := ce_gd e
      refine ce_callT (As := [.int x2]) (rest := [.int o46.1]) C hH (cS_charAt l D ad cA aK aV B0 C.2.2.2.2.2.2.1 w1 hw1 x2 hi51 o46.2) hw1 rfl mcS_charAt ml_6_61 miS_charAt msS_charAt mI_S (n := 1) (by decide) rfl ⟨Nat.le_of_ble_eq_true rfl, Nat.le_of_ble_eq_true rfl⟩ ⟨Nat.le_of_ble_eq_true rfl, Nat.le_of_ble_eq_true rfl⟩ hl.1 rfl (Nat.le_of_ble_eq_true rfl) d6_isWord_51 (fun H locs hH => ?_)
      refine W.eq (g2 := F0 m 54 ls [.int (ce_chr w1 x2), .int o46.1]) rfl ?_
      refine lv_icmp_eq (tgt := 59) hx9 hb d6_isWord_54 (by decide) (fun hc54 => ?_) (fun hc54 => ?_)
      · have e := ce_if1 e hc54
        refine lv_iinc (v := x2 + (1 : Int32)) (lv' := [(2, .int (x2 + (1 : Int32))), (0, .ref (ad 1)), (1, .ref (aK w1))]) hx9 hb d6_isWord_59 hl (k := 2) rfl rfl (by decide) rfl (fun ls hl => ?_)
        refine lv_goto (tgt := 28) hx9 hb d6_isWord_62 (by decide) ?_
        exact ih (x2 + (1 : Int32)) o46.2 _ _ _ hH (lv_sub hl [1, 2, 0] rfl) e
      · have e := ce_if0 e hc54
        refine lv_iconst (v := (0 : Int32)) hx9 hb d6_isWord_57 (by decide) ?_
        have e := (he _).symm.trans e
        exact ce_zretE C (ce_sok aK aV B0) hH (Or.inl rfl) e d6_isWord_58
def f6_isWord (F : Nat) (w1 : Nat) (h : Hp) : Option (Int32 × Hp) :=
  if (h 1 1) = (1 : Int32) then
    if ((h 1 3) - (h 1 2)) = (ce_slen w1) then
      Option.bind (ce_it (fun (st : Int32 × Hp) => f6_isWord_b28 F w1 st.1 st.2) F ((0 : Int32), h)) (fun o28w => match o28w with
        | .inl z => some z
        | .inr o28 =>
          some ((1 : Int32), o28))
    else
      some ((0 : Int32), h)
  else
    some ((0 : Int32), h)
set_option maxRecDepth 20000 in
theorem c6_isWord (l : Launch) (D : va_G) (ad : Nat → Nat) (cA : Nat → ClassId) (aK aV : Nat → Nat) (B0 : Nat) (hA : ce_Ad ad B0) (F : Nat) (w1 : Nat) (hw1 : w1 < 9) (h : Hp) (r : Int32 × Hp) (e : f6_isWord F w1 h = some r) : ce_Ct l D ad cA B0 (ce_St aK aV B0) y6_isWord b6_isWord 3 (some .boolean) 9 221 0 0 [.ref (ad 1), .ref (aK w1)] h (some (.int r.1)) r.2 := by
  refine ce_enter hA (by decide) rfl (Nat.le_of_ble_eq_true rfl) (fun p e0 s m below meth c ls C hH hl => ?_)
  have hl : lv_has ls 3 [(0, .ref (ad 1)), (1, .ref (aK w1))] := hl
  have hx := C.1
  have hb := C.2.1
  have e : Option.bind _ some = some r := (congrArg (fun z => Option.bind z some) e).trans rfl
  unfold f6_isWord at e
  refine lv_aload_n hx hb d6_isWord_0 rfl (lv_at hl 0 rfl) ?_
  refine gf_6_18 C hH d6_isWord_1 ?_
  refine lv_iconst (v := (1 : Int32)) hx hb d6_isWord_4 (by decide) ?_
  refine lv_icmp_ne (tgt := 24) hx hb d6_isWord_5 (by decide) (fun hc5 => ?_) (fun hc5 => ?_)
  · have e := ce_if0 e hc5
    refine lv_iconst (v := (0 : Int32)) hx hb d6_isWord_24 (by decide) ?_
    exact ce_zretE C (ce_sok aK aV B0) hH (Or.inl rfl) e d6_isWord_25
  · have e := ce_if1 e hc5
    refine lv_aload_n hx hb d6_isWord_8 rfl (lv_at hl 0 rfl) ?_
    refine gf_6_25 C hH d6_isWord_9 ?_
    refine lv_aload_n hx hb d6_isWord_12 rfl (lv_at hl 0 rfl) ?_
    refine gf_6_22 C hH d6_isWord_13 ?_
    refine lv_isub hx hb d6_isWord_16 ?_
    refine lv_aload_n hx hb d6_isWord_17 rfl (lv_at hl 1 rfl) ?_
    refine ce_callT (As := []) (rest := [.int ((h 1 3) - (h 1 2))]) C hH (cS_length l D ad cA aK aV B0 C.2.2.2.2.2.2.1 w1 hw1 h) hw1 rfl mcS_length ml_6_55 miS_length msS_length mI_S (n := 0) (by decide) rfl ⟨Nat.le_of_ble_eq_true rfl, Nat.le_of_ble_eq_true rfl⟩ ⟨Nat.le_of_ble_eq_true rfl, Nat.le_of_ble_eq_true rfl⟩ hl.1 rfl (Nat.le_of_ble_eq_true rfl) d6_isWord_18 (fun H locs hH => ?_)
    refine W.eq (g2 := F0 m 21 ls [.int (ce_slen w1), .int ((h 1 3) - (h 1 2))]) rfl ?_
    refine lv_icmp_eq (tgt := 26) hx hb d6_isWord_21 (by decide) (fun hc21 => ?_) (fun hc21 => ?_)
    · have e := ce_if1 e hc21
      refine lv_iconst (v := (0 : Int32)) hx hb d6_isWord_26 (by decide) ?_
      refine lv_istore_n (lv' := [(2, .int (0 : Int32)), (0, .ref (ad 1)), (1, .ref (aK w1))]) hx hb d6_isWord_27 rfl hl (by decide) rfl (fun ls hl => ?_)
      refine l6_isWord_28 C F w1 hw1 r _ (fun  h_28 H locs ls hH hl e => ?_) (fun z => rfl) F (0 : Int32) h _ _ _ hH (lv_sub hl [1, 2, 0] rfl) (ce_as e)
      try dsimp only at e
      refine lv_iconst (v := (1 : Int32)) hx hb d6_isWord_65 (by decide) ?_
      exact ce_zretE C (ce_sok aK aV B0) hH (Or.inr rfl) e d6_isWord_66
    · have e := ce_if0 e hc21
      refine lv_iconst (v := (0 : Int32)) hx hb d6_isWord_24 (by decide) ?_
      exact ce_zretE C (ce_sok aK aV B0) hH (Or.inl rfl) e d6_isWord_25
abbrev b6_takeWord : ByteArray := prog_8_method_10_code
def y6_takeWord : MethodName := ⟨cn_6, "takeWord", "(Ljava/lang/String;)V"⟩
theorem d6_takeWord_0 : decode b6_takeWord 0 = .ok (.aload_n 0, 1) := by decide +kernel
theorem d6_takeWord_1 : decode b6_takeWord 1 = .ok (.invokevirtual 37, 3) := by decide +kernel
theorem d6_takeWord_4 : decode b6_takeWord 4 = .ok (.ifCond .eq 23, 3) := by decide +kernel
theorem d6_takeWord_7 : decode b6_takeWord 7 = .ok (.aload_n 0, 1) := by decide +kernel
theorem d6_takeWord_8 : decode b6_takeWord 8 = .ok (.aload_n 1, 1) := by decide +kernel
theorem d6_takeWord_9 : decode b6_takeWord 9 = .ok (.invokevirtual 65, 3) := by decide +kernel
theorem d6_takeWord_12 : decode b6_takeWord 12 = .ok (.ifCond .eq 10, 3) := by decide +kernel
theorem d6_takeWord_15 : decode b6_takeWord 15 = .ok (.aload_n 0, 1) := by decide +kernel
theorem d6_takeWord_16 : decode b6_takeWord 16 = .ok (.invokevirtual 34, 3) := by decide +kernel
theorem d6_takeWord_19 : decode b6_takeWord 19 = .ok (.goto 8, 3) := by decide +kernel
theorem d6_takeWord_22 : decode b6_takeWord 22 = .ok (.aload_n 0, 1) := by decide +kernel
theorem d6_takeWord_23 : decode b6_takeWord 23 = .ok (.iconst 1, 1) := by decide +kernel
theorem d6_takeWord_24 : decode b6_takeWord 24 = .ok (.invokevirtual 69, 3) := by decide +kernel
theorem d6_takeWord_27 : decode b6_takeWord 27 = .ok (.return_, 1) := by decide +kernel
theorem mc6_refuse : Cond.code y6_refuse b6_refuse 2 none ∈ ce_cm := ce_cm_of (List.mem_of_getElem? (i := 591) (by decide +kernel)) (by decide +kernel)
theorem ml_6_69 : Cond.methodLink cn_6 69 y6_refuse ∈ ce_cm := ce_cm_of (List.mem_of_getElem? (i := 588) (by decide +kernel)) (by decide +kernel)
theorem mi6_refuse : Cond.instanceMethod y6_refuse ∈ ce_cm := ce_cm_of (List.mem_of_getElem? (i := 589) (by decide +kernel)) (by decide +kernel)
theorem ms6_refuse : Cond.selects cn_6 y6_refuse y6_refuse ∈ ce_cm := ce_cm_of (List.mem_of_getElem? (i := 590) (by decide +kernel)) (by decide +kernel)
theorem mc6_isWord : Cond.code y6_isWord b6_isWord 3 (some .boolean) ∈ ce_cm := ce_cm_of (List.mem_of_getElem? (i := 539) (by decide +kernel)) (by decide +kernel)
theorem ml_6_65 : Cond.methodLink cn_6 65 y6_isWord ∈ ce_cm := ce_cm_of (List.mem_of_getElem? (i := 536) (by decide +kernel)) (by decide +kernel)
theorem mi6_isWord : Cond.instanceMethod y6_isWord ∈ ce_cm := ce_cm_of (List.mem_of_getElem? (i := 537) (by decide +kernel)) (by decide +kernel)
theorem ms6_isWord : Cond.selects cn_6 y6_isWord y6_isWord ∈ ce_cm := ce_cm_of (List.mem_of_getElem? (i := 538) (by decide +kernel)) (by decide +kernel)
def f6_takeWord (F : Nat) (w1 : Nat) (h : Hp) : Option (Hp) :=
  Option.bind (f6_isFine F  h) (fun o1 =>
    if o1.1 = 0 then
      some o1.2
    else
      Option.bind (f6_isWord F w1 o1.2) (fun o9 =>
        if o9.1 = 0 then
          Option.bind (f6_refuse F (1 : Int32) o9.2) (fun o24 =>
            some o24)
        else
          Option.bind (f6_advance F  o9.2) (fun o16 =>
            some o16)))
set_option maxRecDepth 20000 in
theorem c6_takeWord (l : Launch) (D : va_G) (ad : Nat → Nat) (cA : Nat → ClassId) (aK aV : Nat → Nat) (B0 : Nat) (hA : ce_Ad ad B0) (F : Nat) (w1 : Nat) (hw1 : w1 < 9) (h : Hp) (r : Hp) (e : f6_takeWord F w1 h = some r) : ce_Ct l D ad cA B0 (ce_St aK aV B0) y6_takeWord b6_takeWord 2 none 10 243 0 0 [.ref (ad 1), .ref (aK w1)] h none r := by
  refine ce_enter hA (by decide) rfl (Nat.le_of_ble_eq_true rfl) (fun p e0 s m below meth c ls C hH hl => ?_)
  have hl : lv_has ls 2 [(0, .ref (ad 1)), (1, .ref (aK w1))] := hl
  have hx := C.1
  have hb := C.2.1
  have e : Option.bind _ some = some r := (congrArg (fun z => Option.bind z some) e).trans rfl
  unfold f6_takeWord at e
  refine lv_aload_n hx hb d6_takeWord_0 rfl (lv_at hl 0 rfl) ?_
  obtain ⟨o1, eo1, e⟩ := ce_bd e
  refine ce_callV (As := []) (rest := []) C (ce_sok aK aV B0) hH (c6_isFine l D ad cA aK aV B0 C.2.2.2.2.2.2.1 F   h o1 eo1) lo_1.1 lo_1.2.choose_spec rfl rfl mc6_isFine ml_6_37 mi6_isFine ms6_isFine mI_6 (n := 0) (by decide) rfl ⟨Nat.le_of_ble_eq_true rfl, Nat.le_of_ble_eq_true rfl⟩ ⟨Nat.le_of_ble_eq_true rfl, Nat.le_of_ble_eq_true rfl⟩ hl.1 rfl (Nat.le_of_ble_eq_true rfl) d6_takeWord_1 (fun H locs hH => ?_)
  refine W.eq (g2 := F0 m 4 ls [.int o1.1]) rfl ?_
  refine lv_if_eq (tgt := 27) hx hb d6_takeWord_4 (by decide) (fun hc4 => ?_) (fun hc4 => ?_)
  · have e := ce_if1 e hc4
    exact ce_vret C (ce_sok aK aV B0) hH (Option.some.inj e) d6_takeWord_27
  · have e := ce_if0 e hc4
    refine lv_aload_n hx hb d6_takeWord_7 rfl (lv_at hl 0 rfl) ?_
    refine lv_aload_n hx hb d6_takeWord_8 rfl (lv_at hl 1 rfl) ?_
    obtain ⟨o9, eo9, e⟩ := ce_bd e
    refine ce_callV (As := [.ref (aK w1)]) (rest := []) C (ce_sok aK aV B0) hH (c6_isWord l D ad cA aK aV B0 C.2.2.2.2.2.2.1 F w1 hw1 o1.2 o9 eo9) lo_1.1 lo_1.2.choose_spec rfl rfl mc6_isWord ml_6_65 mi6_isWord ms6_isWord mI_6 (n := 1) (by decide) rfl ⟨Nat.le_of_ble_eq_true rfl, Nat.le_of_ble_eq_true rfl⟩ ⟨Nat.le_of_ble_eq_true rfl, Nat.le_of_ble_eq_true rfl⟩ hl.1 rfl (Nat.le_of_ble_eq_true rfl) d6_takeWord_9 (fun H locs hH => ?_)
    refine W.eq (g2 := F0 m 12 ls [.int o9.1]) rfl ?_
    refine lv_if_eq (tgt := 22) hx hb d6_takeWord_12 (by decide) (fun hc12 => ?_) (fun hc12 => ?_)
    · have e := ce_if1 e hc12
      refine lv_aload_n hx hb d6_takeWord_22 rfl (lv_at hl 0 rfl) ?_
      refine lv_iconst (v := (1 : Int32)) hx hb d6_takeWord_23 (by decide) ?_
      obtain ⟨o24, eo24, e⟩ := ce_bd e
      refine ce_callV (As := [.int (1 : Int32)]) (rest := []) C (ce_sok aK aV B0) hH (c6_refuse l D ad cA aK aV B0 C.2.2.2.2.2.2.1 F (1 : Int32)  o9.2 o24 eo24) lo_1.1 lo_1.2.choose_spec rfl rfl mc6_refuse ml_6_69 mi6_refuse ms6_refuse mI_6 (n := 1) (by decide) rfl ⟨Nat.le_of_ble_eq_true rfl, Nat.le_of_ble_eq_true rfl⟩ ⟨Nat.le_of_ble_eq_true rfl, Nat.le_of_ble_eq_true rfl⟩ hl.1 rfl (Nat.le_of_ble_eq_true rfl) d6_takeWord_24 (fun H locs hH => ?_)
      refine W.eq (g2 := F0 m 27 ls []) rfl ?_
      exact ce_vret C (ce_sok aK aV B0) hH (Option.some.inj e) d6_takeWord_27
    · have e := ce_if0 e hc12
      refine lv_aload_n hx hb d6_takeWord_15 rfl (lv_at hl 0 rfl) ?_
      obtain ⟨o16, eo16, e⟩ := ce_bd e
      refine ce_callV (As := []) (rest := []) C (ce_sok aK aV B0) hH (c6_advance l D ad cA aK aV B0 C.2.2.2.2.2.2.1 F   o9.2 o16 eo16) lo_1.1 lo_1.2.choose_spec rfl rfl mc6_advance ml_6_34 mi6_advance ms6_advance mI_6 (n := 0) (by decide) rfl ⟨Nat.le_of_ble_eq_true rfl, Nat.le_of_ble_eq_true rfl⟩ ⟨Nat.le_of_ble_eq_true rfl, Nat.le_of_ble_eq_true rfl⟩ hl.1 rfl (Nat.le_of_ble_eq_true rfl) d6_takeWord_16 (fun H locs hH => ?_)
      refine W.eq (g2 := F0 m 19 ls []) rfl ?_
      refine lv_goto (tgt := 27) hx hb d6_takeWord_19 (by decide) ?_
      exact ce_vret C (ce_sok aK aV B0) hH (Option.some.inj e) d6_takeWord_27
abbrev b6_takeSign : ByteArray := prog_8_method_11_code
def y6_takeSign : MethodName := ⟨cn_6, "takeSign", "()V"⟩
theorem d6_takeSign_0 : decode b6_takeSign 0 = .ok (.aload_n 0, 1) := by decide +kernel
theorem d6_takeSign_1 : decode b6_takeSign 1 = .ok (.invokevirtual 37, 3) := by decide +kernel
theorem d6_takeSign_4 : decode b6_takeSign 4 = .ok (.ifCond .eq 23, 3) := by decide +kernel
theorem d6_takeSign_7 : decode b6_takeSign 7 = .ok (.aload_n 0, 1) := by decide +kernel
theorem d6_takeSign_8 : decode b6_takeSign 8 = .ok (.getfield 18, 3) := by decide +kernel
theorem d6_takeSign_11 : decode b6_takeSign 11 = .ok (.iconst 3, 1) := by decide +kernel
theorem d6_takeSign_12 : decode b6_takeSign 12 = .ok (.if_icmp .ne 10, 3) := by decide +kernel
theorem d6_takeSign_15 : decode b6_takeSign 15 = .ok (.aload_n 0, 1) := by decide +kernel
theorem d6_takeSign_16 : decode b6_takeSign 16 = .ok (.invokevirtual 34, 3) := by decide +kernel
theorem d6_takeSign_19 : decode b6_takeSign 19 = .ok (.goto 8, 3) := by decide +kernel
theorem d6_takeSign_22 : decode b6_takeSign 22 = .ok (.aload_n 0, 1) := by decide +kernel
theorem d6_takeSign_23 : decode b6_takeSign 23 = .ok (.iconst 1, 1) := by decide +kernel
theorem d6_takeSign_24 : decode b6_takeSign 24 = .ok (.invokevirtual 69, 3) := by decide +kernel
theorem d6_takeSign_27 : decode b6_takeSign 27 = .ok (.return_, 1) := by decide +kernel
def f6_takeSign (F : Nat)  (h : Hp) : Option (Hp) :=
  Option.bind (f6_isFine F  h) (fun o1 =>
    if o1.1 = 0 then
      some o1.2
    else
      if (o1.2 1 1) = (3 : Int32) then
        Option.bind (f6_advance F  o1.2) (fun o16 =>
          some o16)
      else
        Option.bind (f6_refuse F (1 : Int32) o1.2) (fun o24 =>
          some o24))
set_option maxRecDepth 20000 in
theorem c6_takeSign (l : Launch) (D : va_G) (ad : Nat → Nat) (cA : Nat → ClassId) (aK aV : Nat → Nat) (B0 : Nat) (hA : ce_Ad ad B0) (F : Nat)   (h : Hp) (r : Hp) (e : f6_takeSign F  h = some r) : ce_Ct l D ad cA B0 (ce_St aK aV B0) y6_takeSign b6_takeSign 1 none 2 42 0 0 [.ref (ad 1)] h none r := by
  refine ce_enter hA (by decide) rfl (Nat.le_of_ble_eq_true rfl) (fun p e0 s m below meth c ls C hH hl => ?_)
  have hl : lv_has ls 1 [(0, .ref (ad 1))] := hl
  have hx := C.1
  have hb := C.2.1
  have e : Option.bind _ some = some r := (congrArg (fun z => Option.bind z some) e).trans rfl
  unfold f6_takeSign at e
  refine lv_aload_n hx hb d6_takeSign_0 rfl (lv_at hl 0 rfl) ?_
  obtain ⟨o1, eo1, e⟩ := ce_bd e
  refine ce_callV (As := []) (rest := []) C (ce_sok aK aV B0) hH (c6_isFine l D ad cA aK aV B0 C.2.2.2.2.2.2.1 F   h o1 eo1) lo_1.1 lo_1.2.choose_spec rfl rfl mc6_isFine ml_6_37 mi6_isFine ms6_isFine mI_6 (n := 0) (by decide) rfl ⟨Nat.le_of_ble_eq_true rfl, Nat.le_of_ble_eq_true rfl⟩ ⟨Nat.le_of_ble_eq_true rfl, Nat.le_of_ble_eq_true rfl⟩ hl.1 rfl (Nat.le_of_ble_eq_true rfl) d6_takeSign_1 (fun H locs hH => ?_)
  refine W.eq (g2 := F0 m 4 ls [.int o1.1]) rfl ?_
  refine lv_if_eq (tgt := 27) hx hb d6_takeSign_4 (by decide) (fun hc4 => ?_) (fun hc4 => ?_)
  · have e := ce_if1 e hc4
    exact ce_vret C (ce_sok aK aV B0) hH (Option.some.inj e) d6_takeSign_27
  · have e := ce_if0 e hc4
    refine lv_aload_n hx hb d6_takeSign_7 rfl (lv_at hl 0 rfl) ?_
    refine gf_6_18 C hH d6_takeSign_8 ?_
    refine lv_iconst (v := (3 : Int32)) hx hb d6_takeSign_11 (by decide) ?_
    refine lv_icmp_ne (tgt := 22) hx hb d6_takeSign_12 (by decide) (fun hc12 => ?_) (fun hc12 => ?_)
    · have e := ce_if0 e hc12
      refine lv_aload_n hx hb d6_takeSign_22 rfl (lv_at hl 0 rfl) ?_
      refine lv_iconst (v := (1 : Int32)) hx hb d6_takeSign_23 (by decide) ?_
      obtain ⟨o24, eo24, e⟩ := ce_bd e
      refine ce_callV (As := [.int (1 : Int32)]) (rest := []) C (ce_sok aK aV B0) hH (c6_refuse l D ad cA aK aV B0 C.2.2.2.2.2.2.1 F (1 : Int32)  o1.2 o24 eo24) lo_1.1 lo_1.2.choose_spec rfl rfl mc6_refuse ml_6_69 mi6_refuse ms6_refuse mI_6 (n := 1) (by decide) rfl ⟨Nat.le_of_ble_eq_true rfl, Nat.le_of_ble_eq_true rfl⟩ ⟨Nat.le_of_ble_eq_true rfl, Nat.le_of_ble_eq_true rfl⟩ hl.1 rfl (Nat.le_of_ble_eq_true rfl) d6_takeSign_24 (fun H locs hH => ?_)
      refine W.eq (g2 := F0 m 27 ls []) rfl ?_
      exact ce_vret C (ce_sok aK aV B0) hH (Option.some.inj e) d6_takeSign_27
    · have e := ce_if1 e hc12
      refine lv_aload_n hx hb d6_takeSign_15 rfl (lv_at hl 0 rfl) ?_
      obtain ⟨o16, eo16, e⟩ := ce_bd e
      refine ce_callV (As := []) (rest := []) C (ce_sok aK aV B0) hH (c6_advance l D ad cA aK aV B0 C.2.2.2.2.2.2.1 F   o1.2 o16 eo16) lo_1.1 lo_1.2.choose_spec rfl rfl mc6_advance ml_6_34 mi6_advance ms6_advance mI_6 (n := 0) (by decide) rfl ⟨Nat.le_of_ble_eq_true rfl, Nat.le_of_ble_eq_true rfl⟩ ⟨Nat.le_of_ble_eq_true rfl, Nat.le_of_ble_eq_true rfl⟩ hl.1 rfl (Nat.le_of_ble_eq_true rfl) d6_takeSign_16 (fun H locs hH => ?_)
      refine W.eq (g2 := F0 m 19 ls []) rfl ?_
      refine lv_goto (tgt := 27) hx hb d6_takeSign_19 (by decide) ?_
      exact ce_vret C (ce_sok aK aV B0) hH (Option.some.inj e) d6_takeSign_27
abbrev b6_numberHere : ByteArray := prog_8_method_13_code
def y6_numberHere : MethodName := ⟨cn_6, "numberHere", "()I"⟩
theorem d6_numberHere_0 : decode b6_numberHere 0 = .ok (.iconst 0, 1) := by decide +kernel
theorem d6_numberHere_1 : decode b6_numberHere 1 = .ok (.istore_n 1, 1) := by decide +kernel
theorem d6_numberHere_2 : decode b6_numberHere 2 = .ok (.aload_n 0, 1) := by decide +kernel
theorem d6_numberHere_3 : decode b6_numberHere 3 = .ok (.getfield 22, 3) := by decide +kernel
theorem d6_numberHere_6 : decode b6_numberHere 6 = .ok (.istore_n 2, 1) := by decide +kernel
theorem d6_numberHere_7 : decode b6_numberHere 7 = .ok (.iload_n 2, 1) := by decide +kernel
theorem d6_numberHere_8 : decode b6_numberHere 8 = .ok (.aload_n 0, 1) := by decide +kernel
theorem d6_numberHere_9 : decode b6_numberHere 9 = .ok (.getfield 25, 3) := by decide +kernel
theorem d6_numberHere_12 : decode b6_numberHere 12 = .ok (.if_icmp .ge 33, 3) := by decide +kernel
theorem d6_numberHere_15 : decode b6_numberHere 15 = .ok (.iload_n 1, 1) := by decide +kernel
theorem d6_numberHere_16 : decode b6_numberHere 16 = .ok (.sipush 999, 3) := by decide +kernel
theorem d6_numberHere_19 : decode b6_numberHere 19 = .ok (.if_icmp .gt 20, 3) := by decide +kernel
theorem d6_numberHere_22 : decode b6_numberHere 22 = .ok (.iload_n 1, 1) := by decide +kernel
theorem d6_numberHere_23 : decode b6_numberHere 23 = .ok (.bipush 10, 2) := by decide +kernel
theorem d6_numberHere_25 : decode b6_numberHere 25 = .ok (.imul, 1) := by decide +kernel
theorem d6_numberHere_26 : decode b6_numberHere 26 = .ok (.aload_n 0, 1) := by decide +kernel
theorem d6_numberHere_27 : decode b6_numberHere 27 = .ok (.getfield 12, 3) := by decide +kernel
theorem d6_numberHere_30 : decode b6_numberHere 30 = .ok (.iload_n 2, 1) := by decide +kernel
theorem d6_numberHere_31 : decode b6_numberHere 31 = .ok (.invokevirtual 44, 3) := by decide +kernel
theorem d6_numberHere_34 : decode b6_numberHere 34 = .ok (.iadd, 1) := by decide +kernel
theorem d6_numberHere_35 : decode b6_numberHere 35 = .ok (.bipush 48, 2) := by decide +kernel
theorem d6_numberHere_37 : decode b6_numberHere 37 = .ok (.isub, 1) := by decide +kernel
theorem d6_numberHere_38 : decode b6_numberHere 38 = .ok (.istore_n 1, 1) := by decide +kernel
theorem d6_numberHere_39 : decode b6_numberHere 39 = .ok (.iinc 2 1, 3) := by decide +kernel
theorem d6_numberHere_42 : decode b6_numberHere 42 = .ok (.goto (-35), 3) := by decide +kernel
theorem d6_numberHere_45 : decode b6_numberHere 45 = .ok (.iload_n 1, 1) := by decide +kernel
theorem d6_numberHere_46 : decode b6_numberHere 46 = .ok (.ireturn, 1) := by decide +kernel
def f6_numberHere_b7 (F : Nat) (x1 : Int32) (x2 : Int32) (h : Hp) : Option ((Int32 × Int32 × Hp) ⊕ (Int32 × Hp)) :=
  if (h 1 3) ≤ x2 then
    some (.inr (x1, h))
  else
    if (999 : Int32) < x1 then
      some (.inl (x1, x2 + (1 : Int32), h))
    else
      Option.bind (f7_byteAt F x2 h) (fun o31 =>
        some (.inl (((x1 * (10 : Int32)) + o31.1) - (48 : Int32), x2 + (1 : Int32), o31.2)))
set_option maxRecDepth 20000 in
theorem l6_numberHere_7 (C : ce_Cx p s m args c meth b6_numberHere 3 (some .int) cn_6 D ad cA B0 (ce_St aK aV B0)) (F : Nat)   (r : Int32 × Hp) (g : (Int32 × Hp) → Option (Int32 × Hp)) (hx : ∀ (x1 : Int32) (h : Hp) (H : Heap) (locs : List Loc) (ls : Array Slot), ce_H D ad cA B0 [] s h H locs → lv_has ls 3 [(1, .int x1)] → g (x1, h) = some r → W p l e0 { frames := 1, cells := 0, slots := 0, locals := 21 } s m args below meth c H locs 0 0 (MQ below (ce_Q D ad cA B0 (ce_St aK aV B0) (some (.int r.1)) r.2) args s 0 0 (fun q => B0 ≤ q)) (F0 m 45 ls [])) : ∀ (n : Nat) (x1 : Int32) (x2 : Int32) (h : Hp) (H : Heap) (locs : List Loc) (ls : Array Slot), ce_H D ad cA B0 [] s h H locs → lv_has ls 3 [(0, .ref (ad 1)), (1, .int x1), (2, .int x2)] → Option.bind (ce_it (fun (st : Int32 × Int32 × Hp) => f6_numberHere_b7 F  st.1 st.2.1 st.2.2) n (x1, x2, h)) g = some r → W p l e0 { frames := 1, cells := 0, slots := 0, locals := 21 } s m args below meth c H locs 0 0 (MQ below (ce_Q D ad cA B0 (ce_St aK aV B0) (some (.int r.1)) r.2) args s 0 0 (fun q => B0 ≤ q)) (F0 m 7 ls []) := by
  intro n
  induction n with
  | zero =>
    intro x1 x2 h H locs ls hH hl e
    exact absurd e (fun z => by cases z)
  | succ n ih =>
    intro x1 x2 h H locs ls hH hl e
    have hx9 := C.1
    have hb := C.2.1
    have e : Option.bind (f6_numberHere_b7 F  x1 x2 h) _ = some r := ce_it_bd e
    unfold f6_numberHere_b7 at e
    refine lv_iload_n hx9 hb d6_numberHere_7 rfl (lv_at hl 2 rfl) ?_
    refine lv_aload_n hx9 hb d6_numberHere_8 rfl (lv_at hl 0 rfl) ?_
    refine gf_6_25 C hH d6_numberHere_9 ?_
    refine lv_icmp_ge (tgt := 45) hx9 hb d6_numberHere_12 (by decide) (fun hc12 => ?_) (fun hc12 => ?_)
    · have e := ce_if1 e hc12
      exact hx x1 h _ _ _ hH (lv_sub hl [1] rfl) e
    · have e := ce_if0 e hc12
      refine lv_iload_n hx9 hb d6_numberHere_15 rfl (lv_at hl 1 rfl) ?_
      refine lv_sipush (v := (999 : Int32)) hx9 hb d6_numberHere_16 (by decide) ?_
      refine lv_icmp_gt (tgt := 39) hx9 hb d6_numberHere_19 (by decide) (fun hc19 => ?_) (fun hc19 => ?_)
      · have e := ce_if1 e hc19
        refine lv_iinc (v := x2 + (1 : Int32)) (lv' := [(2, .int (x2 + (1 : Int32))), (0, .ref (ad 1)), (1, .int x1)]) hx9 hb d6_numberHere_39 hl (k := 2) rfl rfl (by decide) rfl (fun ls hl => ?_)
        refine lv_goto (tgt := 7) hx9 hb d6_numberHere_42 (by decide) ?_
        exact ih x1 (x2 + (1 : Int32)) h _ _ _ hH (lv_sub hl [1, 2, 0] rfl) e
      · have e := ce_if0 e hc19
        refine lv_iload_n hx9 hb d6_numberHere_22 rfl (lv_at hl 1 rfl) ?_
        refine lv_bipush (v := (10 : Int32)) hx9 hb d6_numberHere_23 (by decide) ?_
        refine lv_imul hx9 hb d6_numberHere_25 ?_
        refine lv_aload_n hx9 hb d6_numberHere_26 rfl (lv_at hl 0 rfl) ?_
        refine gf_6_12 C hH d6_numberHere_27 ?_
        refine lv_iload_n hx9 hb d6_numberHere_30 rfl (lv_at hl 2 rfl) ?_
        obtain ⟨o31, eo31, e⟩ := ce_bd e
        refine ce_callV (As := [.int x2]) (rest := [.int (x1 * (10 : Int32))]) C (ce_sok aK aV B0) hH (c7_byteAt l D ad cA aK aV B0 C.2.2.2.2.2.2.1 F x2  h o31 eo31) lo_2.1 lo_2.2.choose_spec rfl rfl mc7_byteAt ml_6_44 mi7_byteAt ms7_byteAt mI_7 (n := 1) (by decide) rfl ⟨Nat.le_of_ble_eq_true rfl, Nat.le_of_ble_eq_true rfl⟩ ⟨Nat.le_of_ble_eq_true rfl, Nat.le_of_ble_eq_true rfl⟩ hl.1 rfl (Nat.le_of_ble_eq_true rfl) d6_numberHere_31 (fun H locs hH => ?_)
        refine W.eq (g2 := F0 m 34 ls [.int o31.1, .int (x1 * (10 : Int32))]) rfl ?_
        refine lv_iadd hx9 hb d6_numberHere_34 ?_
        refine lv_bipush (v := (48 : Int32)) hx9 hb d6_numberHere_35 (by decide) ?_
        refine lv_isub hx9 hb d6_numberHere_37 ?_
        refine lv_istore_n (lv' := [(1, .int (((x1 * (10 : Int32)) + o31.1) - (48 : Int32))), (0, .ref (ad 1)), (2, .int x2)]) hx9 hb d6_numberHere_38 rfl hl (by decide) rfl (fun ls hl => ?_)
        refine lv_iinc (v := x2 + (1 : Int32)) (lv' := [(2, .int (x2 + (1 : Int32))), (1, .int (((x1 * (10 : Int32)) + o31.1) - (48 : Int32))), (0, .ref (ad 1))]) hx9 hb d6_numberHere_39 hl (k := 2) rfl rfl (by decide) rfl (fun ls hl => ?_)
        refine lv_goto (tgt := 7) hx9 hb d6_numberHere_42 (by decide) ?_
        exact ih (((x1 * (10 : Int32)) + o31.1) - (48 : Int32)) (x2 + (1 : Int32)) o31.2 _ _ _ hH (lv_sub hl [2, 1, 0] rfl) e
def f6_numberHere (F : Nat)  (h : Hp) : Option (Int32 × Hp) :=
  Option.bind (ce_it (fun (st : Int32 × Int32 × Hp) => f6_numberHere_b7 F  st.1 st.2.1 st.2.2) F ((0 : Int32), h 1 2, h)) (fun o7 =>
    some (o7.1, o7.2))
set_option maxRecDepth 20000 in
theorem c6_numberHere (l : Launch) (D : va_G) (ad : Nat → Nat) (cA : Nat → ClassId) (aK aV : Nat → Nat) (B0 : Nat) (hA : ce_Ad ad B0) (F : Nat)   (h : Hp) (r : Int32 × Hp) (e : f6_numberHere F  h = some r) : ce_Ct l D ad cA B0 (ce_St aK aV B0) y6_numberHere b6_numberHere 3 (some .int) 1 21 0 0 [.ref (ad 1)] h (some (.int r.1)) r.2 := by
  refine ce_enter hA (by decide) rfl (Nat.le_of_ble_eq_true rfl) (fun p e0 s m below meth c ls C hH hl => ?_)
  have hl : lv_has ls 3 [(0, .ref (ad 1))] := hl
  have hx := C.1
  have hb := C.2.1
  have e : Option.bind _ some = some r := (congrArg (fun z => Option.bind z some) e).trans rfl
  unfold f6_numberHere at e
  refine lv_iconst (v := (0 : Int32)) hx hb d6_numberHere_0 (by decide) ?_
  refine lv_istore_n (lv' := [(1, .int (0 : Int32)), (0, .ref (ad 1))]) hx hb d6_numberHere_1 rfl hl (by decide) rfl (fun ls hl => ?_)
  refine lv_aload_n hx hb d6_numberHere_2 rfl (lv_at hl 1 rfl) ?_
  refine gf_6_22 C hH d6_numberHere_3 ?_
  refine lv_istore_n (lv' := [(2, .int (h 1 2)), (1, .int (0 : Int32)), (0, .ref (ad 1))]) hx hb d6_numberHere_6 rfl hl (by decide) rfl (fun ls hl => ?_)
  refine l6_numberHere_7 C F   r _ (fun y7_1 h_7 H locs ls hH hl e => ?_) F (0 : Int32) (h 1 2) h _ _ _ hH (lv_sub hl [2, 1, 0] rfl) (ce_as e)
  try dsimp only at e
  refine lv_iload_n hx hb d6_numberHere_45 rfl (lv_at hl 0 rfl) ?_
  exact ce_iretE C (ce_sok aK aV B0) hH e d6_numberHere_46
abbrev b6_takeNumber : ByteArray := prog_8_method_12_code
def y6_takeNumber : MethodName := ⟨cn_6, "takeNumber", "(II)I"⟩
theorem d6_takeNumber_0 : decode b6_takeNumber 0 = .ok (.aload_n 0, 1) := by decide +kernel
theorem d6_takeNumber_1 : decode b6_takeNumber 1 = .ok (.invokevirtual 37, 3) := by decide +kernel
theorem d6_takeNumber_4 : decode b6_takeNumber 4 = .ok (.ifCond .ne 5, 3) := by decide +kernel
theorem d6_takeNumber_7 : decode b6_takeNumber 7 = .ok (.iload_n 1, 1) := by decide +kernel
theorem d6_takeNumber_8 : decode b6_takeNumber 8 = .ok (.ireturn, 1) := by decide +kernel
theorem d6_takeNumber_9 : decode b6_takeNumber 9 = .ok (.aload_n 0, 1) := by decide +kernel
theorem d6_takeNumber_10 : decode b6_takeNumber 10 = .ok (.getfield 18, 3) := by decide +kernel
theorem d6_takeNumber_13 : decode b6_takeNumber 13 = .ok (.iconst 2, 1) := by decide +kernel
theorem d6_takeNumber_14 : decode b6_takeNumber 14 = .ok (.if_icmp .eq 10, 3) := by decide +kernel
theorem d6_takeNumber_17 : decode b6_takeNumber 17 = .ok (.aload_n 0, 1) := by decide +kernel
theorem d6_takeNumber_18 : decode b6_takeNumber 18 = .ok (.iconst 1, 1) := by decide +kernel
theorem d6_takeNumber_19 : decode b6_takeNumber 19 = .ok (.invokevirtual 69, 3) := by decide +kernel
theorem d6_takeNumber_22 : decode b6_takeNumber 22 = .ok (.iload_n 1, 1) := by decide +kernel
theorem d6_takeNumber_23 : decode b6_takeNumber 23 = .ok (.ireturn, 1) := by decide +kernel
theorem d6_takeNumber_24 : decode b6_takeNumber 24 = .ok (.aload_n 0, 1) := by decide +kernel
theorem d6_takeNumber_25 : decode b6_takeNumber 25 = .ok (.invokevirtual 73, 3) := by decide +kernel
theorem d6_takeNumber_28 : decode b6_takeNumber 28 = .ok (.istore_n 3, 1) := by decide +kernel
theorem d6_takeNumber_29 : decode b6_takeNumber 29 = .ok (.iload_n 3, 1) := by decide +kernel
theorem d6_takeNumber_30 : decode b6_takeNumber 30 = .ok (.iload_n 1, 1) := by decide +kernel
theorem d6_takeNumber_31 : decode b6_takeNumber 31 = .ok (.if_icmp .lt 8, 3) := by decide +kernel
theorem d6_takeNumber_34 : decode b6_takeNumber 34 = .ok (.iload_n 3, 1) := by decide +kernel
theorem d6_takeNumber_35 : decode b6_takeNumber 35 = .ok (.iload_n 2, 1) := by decide +kernel
theorem d6_takeNumber_36 : decode b6_takeNumber 36 = .ok (.if_icmp .le 10, 3) := by decide +kernel
theorem d6_takeNumber_39 : decode b6_takeNumber 39 = .ok (.aload_n 0, 1) := by decide +kernel
theorem d6_takeNumber_40 : decode b6_takeNumber 40 = .ok (.iconst 2, 1) := by decide +kernel
theorem d6_takeNumber_41 : decode b6_takeNumber 41 = .ok (.invokevirtual 69, 3) := by decide +kernel
theorem d6_takeNumber_44 : decode b6_takeNumber 44 = .ok (.iload_n 1, 1) := by decide +kernel
theorem d6_takeNumber_45 : decode b6_takeNumber 45 = .ok (.ireturn, 1) := by decide +kernel
theorem d6_takeNumber_46 : decode b6_takeNumber 46 = .ok (.aload_n 0, 1) := by decide +kernel
theorem d6_takeNumber_47 : decode b6_takeNumber 47 = .ok (.invokevirtual 34, 3) := by decide +kernel
theorem d6_takeNumber_50 : decode b6_takeNumber 50 = .ok (.iload_n 3, 1) := by decide +kernel
theorem d6_takeNumber_51 : decode b6_takeNumber 51 = .ok (.ireturn, 1) := by decide +kernel
theorem mc6_numberHere : Cond.code y6_numberHere b6_numberHere 3 (some .int) ∈ ce_cm := ce_cm_of (List.mem_of_getElem? (i := 600) (by decide +kernel)) (by decide +kernel)
theorem ml_6_73 : Cond.methodLink cn_6 73 y6_numberHere ∈ ce_cm := ce_cm_of (List.mem_of_getElem? (i := 597) (by decide +kernel)) (by decide +kernel)
theorem mi6_numberHere : Cond.instanceMethod y6_numberHere ∈ ce_cm := ce_cm_of (List.mem_of_getElem? (i := 598) (by decide +kernel)) (by decide +kernel)
theorem ms6_numberHere : Cond.selects cn_6 y6_numberHere y6_numberHere ∈ ce_cm := ce_cm_of (List.mem_of_getElem? (i := 599) (by decide +kernel)) (by decide +kernel)
def f6_takeNumber (F : Nat) (x1 : Int32) (x2 : Int32) (h : Hp) : Option (Int32 × Hp) :=
  Option.bind (f6_isFine F  h) (fun o1 =>
    if o1.1 = 0 then
      some (x1, o1.2)
    else
      if (o1.2 1 1) = (2 : Int32) then
        Option.bind (f6_numberHere F  o1.2) (fun o25 =>
          if o25.1 < x1 then
            Option.bind (f6_refuse F (2 : Int32) o25.2) (fun o41 =>
              some (x1, o41))
          else
            if o25.1 ≤ x2 then
              Option.bind (f6_advance F  o25.2) (fun o47 =>
                some (o25.1, o47))
            else
              Option.bind (f6_refuse F (2 : Int32) o25.2) (fun o41 =>
                some (x1, o41)))
      else
        Option.bind (f6_refuse F (1 : Int32) o1.2) (fun o19 =>
          some (x1, o19)))
set_option maxRecDepth 20000 in
theorem c6_takeNumber (l : Launch) (D : va_G) (ad : Nat → Nat) (cA : Nat → ClassId) (aK aV : Nat → Nat) (B0 : Nat) (hA : ce_Ad ad B0) (F : Nat) (x1 : Int32) (x2 : Int32)  (h : Hp) (r : Int32 × Hp) (e : f6_takeNumber F x1 x2 h = some r) : ce_Ct l D ad cA B0 (ce_St aK aV B0) y6_takeNumber b6_takeNumber 4 (some .int) 2 43 0 0 [.ref (ad 1), .int x1, .int x2] h (some (.int r.1)) r.2 := by
  refine ce_enter hA (by decide) rfl (Nat.le_of_ble_eq_true rfl) (fun p e0 s m below meth c ls C hH hl => ?_)
  have hl : lv_has ls 4 [(0, .ref (ad 1)), (1, .int x1), (2, .int x2)] := hl
  have hx := C.1
  have hb := C.2.1
  have e : Option.bind _ some = some r := (congrArg (fun z => Option.bind z some) e).trans rfl
  unfold f6_takeNumber at e
  refine lv_aload_n hx hb d6_takeNumber_0 rfl (lv_at hl 0 rfl) ?_
  obtain ⟨o1, eo1, e⟩ := ce_bd e
  refine ce_callV (As := []) (rest := []) C (ce_sok aK aV B0) hH (c6_isFine l D ad cA aK aV B0 C.2.2.2.2.2.2.1 F   h o1 eo1) lo_1.1 lo_1.2.choose_spec rfl rfl mc6_isFine ml_6_37 mi6_isFine ms6_isFine mI_6 (n := 0) (by decide) rfl ⟨Nat.le_of_ble_eq_true rfl, Nat.le_of_ble_eq_true rfl⟩ ⟨Nat.le_of_ble_eq_true rfl, Nat.le_of_ble_eq_true rfl⟩ hl.1 rfl (Nat.le_of_ble_eq_true rfl) d6_takeNumber_1 (fun H locs hH => ?_)
  refine W.eq (g2 := F0 m 4 ls [.int o1.1]) rfl ?_
  refine lv_if_ne (tgt := 9) hx hb d6_takeNumber_4 (by decide) (fun hc4 => ?_) (fun hc4 => ?_)
  · have e := ce_if0 e hc4
    refine lv_aload_n hx hb d6_takeNumber_9 rfl (lv_at hl 0 rfl) ?_
    refine gf_6_18 C hH d6_takeNumber_10 ?_
    refine lv_iconst (v := (2 : Int32)) hx hb d6_takeNumber_13 (by decide) ?_
    refine lv_icmp_eq (tgt := 24) hx hb d6_takeNumber_14 (by decide) (fun hc14 => ?_) (fun hc14 => ?_)
    · have e := ce_if1 e hc14
      refine lv_aload_n hx hb d6_takeNumber_24 rfl (lv_at hl 0 rfl) ?_
      obtain ⟨o25, eo25, e⟩ := ce_bd e
      refine ce_callV (As := []) (rest := []) C (ce_sok aK aV B0) hH (c6_numberHere l D ad cA aK aV B0 C.2.2.2.2.2.2.1 F   o1.2 o25 eo25) lo_1.1 lo_1.2.choose_spec rfl rfl mc6_numberHere ml_6_73 mi6_numberHere ms6_numberHere mI_6 (n := 0) (by decide) rfl ⟨Nat.le_of_ble_eq_true rfl, Nat.le_of_ble_eq_true rfl⟩ ⟨Nat.le_of_ble_eq_true rfl, Nat.le_of_ble_eq_true rfl⟩ hl.1 rfl (Nat.le_of_ble_eq_true rfl) d6_takeNumber_25 (fun H locs hH => ?_)
      refine W.eq (g2 := F0 m 28 ls [.int o25.1]) rfl ?_
      refine lv_istore_n (lv' := [(3, .int o25.1), (0, .ref (ad 1)), (1, .int x1), (2, .int x2)]) hx hb d6_takeNumber_28 rfl hl (by decide) rfl (fun ls hl => ?_)
      refine lv_iload_n hx hb d6_takeNumber_29 rfl (lv_at hl 0 rfl) ?_
      refine lv_iload_n hx hb d6_takeNumber_30 rfl (lv_at hl 2 rfl) ?_
      refine lv_icmp_lt (tgt := 39) hx hb d6_takeNumber_31 (by decide) (fun hc31 => ?_) (fun hc31 => ?_)
      · have e := ce_if1 e hc31
        refine lv_aload_n hx hb d6_takeNumber_39 rfl (lv_at hl 1 rfl) ?_
        refine lv_iconst (v := (2 : Int32)) hx hb d6_takeNumber_40 (by decide) ?_
        obtain ⟨o41, eo41, e⟩ := ce_bd e
        refine ce_callV (As := [.int (2 : Int32)]) (rest := []) C (ce_sok aK aV B0) hH (c6_refuse l D ad cA aK aV B0 C.2.2.2.2.2.2.1 F (2 : Int32)  o25.2 o41 eo41) lo_1.1 lo_1.2.choose_spec rfl rfl mc6_refuse ml_6_69 mi6_refuse ms6_refuse mI_6 (n := 1) (by decide) rfl ⟨Nat.le_of_ble_eq_true rfl, Nat.le_of_ble_eq_true rfl⟩ ⟨Nat.le_of_ble_eq_true rfl, Nat.le_of_ble_eq_true rfl⟩ hl.1 rfl (Nat.le_of_ble_eq_true rfl) d6_takeNumber_41 (fun H locs hH => ?_)
        refine W.eq (g2 := F0 m 44 ls []) rfl ?_
        refine lv_iload_n hx hb d6_takeNumber_44 rfl (lv_at hl 2 rfl) ?_
        exact ce_iretE C (ce_sok aK aV B0) hH e d6_takeNumber_45
      · have e := ce_if0 e hc31
        refine lv_iload_n hx hb d6_takeNumber_34 rfl (lv_at hl 0 rfl) ?_
        refine lv_iload_n hx hb d6_takeNumber_35 rfl (lv_at hl 3 rfl) ?_
        refine lv_icmp_le (tgt := 46) hx hb d6_takeNumber_36 (by decide) (fun hc36 => ?_) (fun hc36 => ?_)
        · have e := ce_if1 e hc36
          refine lv_aload_n hx hb d6_takeNumber_46 rfl (lv_at hl 1 rfl) ?_
          obtain ⟨o47, eo47, e⟩ := ce_bd e
          refine ce_callV (As := []) (rest := []) C (ce_sok aK aV B0) hH (c6_advance l D ad cA aK aV B0 C.2.2.2.2.2.2.1 F   o25.2 o47 eo47) lo_1.1 lo_1.2.choose_spec rfl rfl mc6_advance ml_6_34 mi6_advance ms6_advance mI_6 (n := 0) (by decide) rfl ⟨Nat.le_of_ble_eq_true rfl, Nat.le_of_ble_eq_true rfl⟩ ⟨Nat.le_of_ble_eq_true rfl, Nat.le_of_ble_eq_true rfl⟩ hl.1 rfl (Nat.le_of_ble_eq_true rfl) d6_takeNumber_47 (fun H locs hH => ?_)
          refine W.eq (g2 := F0 m 50 ls []) rfl ?_
          refine lv_iload_n hx hb d6_takeNumber_50 rfl (lv_at hl 0 rfl) ?_
          exact ce_iretE C (ce_sok aK aV B0) hH e d6_takeNumber_51
        · have e := ce_if0 e hc36
          refine lv_aload_n hx hb d6_takeNumber_39 rfl (lv_at hl 1 rfl) ?_
          refine lv_iconst (v := (2 : Int32)) hx hb d6_takeNumber_40 (by decide) ?_
          obtain ⟨o41, eo41, e⟩ := ce_bd e
          refine ce_callV (As := [.int (2 : Int32)]) (rest := []) C (ce_sok aK aV B0) hH (c6_refuse l D ad cA aK aV B0 C.2.2.2.2.2.2.1 F (2 : Int32)  o25.2 o41 eo41) lo_1.1 lo_1.2.choose_spec rfl rfl mc6_refuse ml_6_69 mi6_refuse ms6_refuse mI_6 (n := 1) (by decide) rfl ⟨Nat.le_of_ble_eq_true rfl, Nat.le_of_ble_eq_true rfl⟩ ⟨Nat.le_of_ble_eq_true rfl, Nat.le_of_ble_eq_true rfl⟩ hl.1 rfl (Nat.le_of_ble_eq_true rfl) d6_takeNumber_41 (fun H locs hH => ?_)
          refine W.eq (g2 := F0 m 44 ls []) rfl ?_
          refine lv_iload_n hx hb d6_takeNumber_44 rfl (lv_at hl 2 rfl) ?_
          exact ce_iretE C (ce_sok aK aV B0) hH e d6_takeNumber_45
    · have e := ce_if0 e hc14
      refine lv_aload_n hx hb d6_takeNumber_17 rfl (lv_at hl 0 rfl) ?_
      refine lv_iconst (v := (1 : Int32)) hx hb d6_takeNumber_18 (by decide) ?_
      obtain ⟨o19, eo19, e⟩ := ce_bd e
      refine ce_callV (As := [.int (1 : Int32)]) (rest := []) C (ce_sok aK aV B0) hH (c6_refuse l D ad cA aK aV B0 C.2.2.2.2.2.2.1 F (1 : Int32)  o1.2 o19 eo19) lo_1.1 lo_1.2.choose_spec rfl rfl mc6_refuse ml_6_69 mi6_refuse ms6_refuse mI_6 (n := 1) (by decide) rfl ⟨Nat.le_of_ble_eq_true rfl, Nat.le_of_ble_eq_true rfl⟩ ⟨Nat.le_of_ble_eq_true rfl, Nat.le_of_ble_eq_true rfl⟩ hl.1 rfl (Nat.le_of_ble_eq_true rfl) d6_takeNumber_19 (fun H locs hH => ?_)
      refine W.eq (g2 := F0 m 22 ls []) rfl ?_
      refine lv_iload_n hx hb d6_takeNumber_22 rfl (lv_at hl 1 rfl) ?_
      exact ce_iretE C (ce_sok aK aV B0) hH e d6_takeNumber_23
  · have e := ce_if1 e hc4
    refine lv_iload_n hx hb d6_takeNumber_7 rfl (lv_at hl 1 rfl) ?_
    exact ce_iretE C (ce_sok aK aV B0) hH e d6_takeNumber_8
abbrev b10_reach : ByteArray := prog_12_method_3_code
def y10_reach : MethodName := ⟨cn_10, "reach", "(III)V"⟩
theorem d10_reach_0 : decode b10_reach 0 = .ok (.aload_n 0, 1) := by decide +kernel
theorem d10_reach_1 : decode b10_reach 1 = .ok (.getfield 9, 3) := by decide +kernel
theorem d10_reach_4 : decode b10_reach 4 = .ok (.bipush 10, 2) := by decide +kernel
theorem d10_reach_6 : decode b10_reach 6 = .ok (.if_icmp .ge 47, 3) := by decide +kernel
theorem d10_reach_9 : decode b10_reach 9 = .ok (.aload_n 0, 1) := by decide +kernel
theorem d10_reach_10 : decode b10_reach 10 = .ok (.getfield 22, 3) := by decide +kernel
theorem d10_reach_13 : decode b10_reach 13 = .ok (.iload_n 1, 1) := by decide +kernel
theorem d10_reach_14 : decode b10_reach 14 = .ok (.iaload, 1) := by decide +kernel
theorem d10_reach_15 : decode b10_reach 15 = .ok (.iconst (-1), 1) := by decide +kernel
theorem d10_reach_16 : decode b10_reach 16 = .ok (.if_icmp .ne 37, 3) := by decide +kernel
theorem d10_reach_19 : decode b10_reach 19 = .ok (.aload_n 0, 1) := by decide +kernel
theorem d10_reach_20 : decode b10_reach 20 = .ok (.getfield 15, 3) := by decide +kernel
theorem d10_reach_23 : decode b10_reach 23 = .ok (.aload_n 0, 1) := by decide +kernel
theorem d10_reach_24 : decode b10_reach 24 = .ok (.getfield 9, 3) := by decide +kernel
theorem d10_reach_27 : decode b10_reach 27 = .ok (.iload_n 1, 1) := by decide +kernel
theorem d10_reach_28 : decode b10_reach 28 = .ok (.iastore, 1) := by decide +kernel
theorem d10_reach_29 : decode b10_reach 29 = .ok (.aload_n 0, 1) := by decide +kernel
theorem d10_reach_30 : decode b10_reach 30 = .ok (.getfield 19, 3) := by decide +kernel
theorem d10_reach_33 : decode b10_reach 33 = .ok (.iload_n 1, 1) := by decide +kernel
theorem d10_reach_34 : decode b10_reach 34 = .ok (.iload_n 2, 1) := by decide +kernel
theorem d10_reach_35 : decode b10_reach 35 = .ok (.iastore, 1) := by decide +kernel
theorem d10_reach_36 : decode b10_reach 36 = .ok (.aload_n 0, 1) := by decide +kernel
theorem d10_reach_37 : decode b10_reach 37 = .ok (.getfield 22, 3) := by decide +kernel
theorem d10_reach_40 : decode b10_reach 40 = .ok (.iload_n 1, 1) := by decide +kernel
theorem d10_reach_41 : decode b10_reach 41 = .ok (.iload_n 3, 1) := by decide +kernel
theorem d10_reach_42 : decode b10_reach 42 = .ok (.iastore, 1) := by decide +kernel
theorem d10_reach_43 : decode b10_reach 43 = .ok (.aload_n 0, 1) := by decide +kernel
theorem d10_reach_44 : decode b10_reach 44 = .ok (.dup, 1) := by decide +kernel
theorem d10_reach_45 : decode b10_reach 45 = .ok (.getfield 9, 3) := by decide +kernel
theorem d10_reach_48 : decode b10_reach 48 = .ok (.iconst 1, 1) := by decide +kernel
theorem d10_reach_49 : decode b10_reach 49 = .ok (.iadd, 1) := by decide +kernel
theorem d10_reach_50 : decode b10_reach 50 = .ok (.putfield 9, 3) := by decide +kernel
theorem d10_reach_53 : decode b10_reach 53 = .ok (.return_, 1) := by decide +kernel
theorem fl_10_9 : Cond.fieldLink cn_10 9 (ft_10 0).1 (ft_10 0).2.1 (ft_10 0).2.2.1 ∈ ce_cm := ce_cm_of (List.mem_of_getElem? (i := 331) (by decide +kernel)) (by decide +kernel)
theorem gf_10_9 (C : ce_Cx p s m args c meth cc nL ret cn_10 D ad cA B0 (ce_St aK aV B0)) (hH : ce_H D ad cA B0 X s h H locs) (hdg : decode cc pc = .ok (.getfield 9, 3)) (kk : W p l e0 R s m args below meth c H locs cells slots Q (F0 m (pc + 3) ls (.int (h 40 0) :: rest))) : W p l e0 R s m args below meth c H locs cells slots Q (F0 m pc ls (.ref (ad 40) :: rest)) := by
  exact ce_get C hH (k := 40) (ci := 10) (j := 0) (N := 4) (sj := none) (by decide) rfl rfl fw_10 (by decide) fl_10_9 rfl hdg kk
theorem pf_10_9 (C : ce_Cx p s m args c meth cc nL ret cn_10 D ad cA B0 (ce_St aK aV B0)) (hH : ce_H D ad cA B0 X s h H locs) {x : Int32} (hdg : decode cc pc = .ok (.putfield 9, 3)) (kk : ∀ (H1 : Heap) (locs1 : List Loc), ce_H D ad cA B0 X s (hp_up h 40 0 x) H1 locs1 → W p l e0 R s m args below meth c H1 locs1 cells slots Q (F0 m (pc + 3) ls rest)) : W p l e0 R s m args below meth c H locs cells slots Q (F0 m pc ls (.int x :: .ref (ad 40) :: rest)) := by
  exact ce_put C hH (k := 40) (ci := 10) (j := 0) (N := 4) (fy := fy_10) (sj := none) x (by decide) rfl rfl fw_10 fo_10 fn_10 (by decide) fl_10_9 rfl rfl (v := .int x) (by simp [ce_slot, upd]) rfl rfl hdg kk
theorem fl_10_22 : Cond.fieldLink cn_10 22 (ft_10 3).1 (ft_10 3).2.1 (ft_10 3).2.2.1 ∈ ce_cm := ce_cm_of (List.mem_of_getElem? (i := 338) (by decide +kernel)) (by decide +kernel)
theorem gf_10_22 (C : ce_Cx p s m args c meth cc nL ret cn_10 D ad cA B0 (ce_St aK aV B0)) (hH : ce_H D ad cA B0 X s h H locs) (hdg : decode cc pc = .ok (.getfield 22, 3)) (kk : W p l e0 R s m args below meth c H locs cells slots Q (F0 m (pc + 3) ls (.ref (ad 43) :: rest))) : W p l e0 R s m args below meth c H locs cells slots Q (F0 m pc ls (.ref (ad 40) :: rest)) := by
  exact ce_get C hH (k := 40) (ci := 10) (j := 3) (N := 4) (sj := some (some 43)) (by decide) rfl rfl fw_10 (by decide) fl_10_22 rfl hdg kk
theorem lc_43 : 43 < 96 ∧ ce_lay 43 = .inl (0, 10) := ⟨by decide, rfl⟩
theorem fl_10_15 : Cond.fieldLink cn_10 15 (ft_10 1).1 (ft_10 1).2.1 (ft_10 1).2.2.1 ∈ ce_cm := ce_cm_of (List.mem_of_getElem? (i := 334) (by decide +kernel)) (by decide +kernel)
theorem gf_10_15 (C : ce_Cx p s m args c meth cc nL ret cn_10 D ad cA B0 (ce_St aK aV B0)) (hH : ce_H D ad cA B0 X s h H locs) (hdg : decode cc pc = .ok (.getfield 15, 3)) (kk : W p l e0 R s m args below meth c H locs cells slots Q (F0 m (pc + 3) ls (.ref (ad 41) :: rest))) : W p l e0 R s m args below meth c H locs cells slots Q (F0 m pc ls (.ref (ad 40) :: rest)) := by
  exact ce_get C hH (k := 40) (ci := 10) (j := 1) (N := 4) (sj := some (some 41)) (by decide) rfl rfl fw_10 (by decide) fl_10_15 rfl hdg kk
theorem lc_41 : 41 < 96 ∧ ce_lay 41 = .inl (0, 10) := ⟨by decide, rfl⟩
theorem fl_10_19 : Cond.fieldLink cn_10 19 (ft_10 2).1 (ft_10 2).2.1 (ft_10 2).2.2.1 ∈ ce_cm := ce_cm_of (List.mem_of_getElem? (i := 336) (by decide +kernel)) (by decide +kernel)
theorem gf_10_19 (C : ce_Cx p s m args c meth cc nL ret cn_10 D ad cA B0 (ce_St aK aV B0)) (hH : ce_H D ad cA B0 X s h H locs) (hdg : decode cc pc = .ok (.getfield 19, 3)) (kk : W p l e0 R s m args below meth c H locs cells slots Q (F0 m (pc + 3) ls (.ref (ad 42) :: rest))) : W p l e0 R s m args below meth c H locs cells slots Q (F0 m pc ls (.ref (ad 40) :: rest)) := by
  exact ce_get C hH (k := 40) (ci := 10) (j := 2) (N := 4) (sj := some (some 42)) (by decide) rfl rfl fw_10 (by decide) fl_10_19 rfl hdg kk
theorem lc_42 : 42 < 96 ∧ ce_lay 42 = .inl (0, 10) := ⟨by decide, rfl⟩
def f10_reach (F : Nat) (x1 : Int32) (x2 : Int32) (x3 : Int32) (h : Hp) : Option (Hp) :=
  if (10 : Int32) ≤ (h 40 0) then
    some h
  else
    if ce_in x1 10 = true then
      if (h 43 (x1).toNatClampNeg) = (-1 : Int32) then
        if ce_in (h 40 0) 10 = true then
          ce_nm (hp_up h 41 ((h 40 0)).toNatClampNeg x1) (fun h_28 =>
            if ce_in x1 10 = true then
              ce_nm (hp_up h_28 42 (x1).toNatClampNeg x2) (fun h_35 =>
                if ce_in x1 10 = true then
                  ce_nm (hp_up h_35 43 (x1).toNatClampNeg x3) (fun h_42 =>
                    ce_nm (hp_up h_42 40 0 ((h_42 40 0) + (1 : Int32))) (fun h_50 =>
                      some h_50))
                else none)
            else none)
        else none
      else
        some h
    else none
set_option maxRecDepth 20000 in
theorem c10_reach (l : Launch) (D : va_G) (ad : Nat → Nat) (cA : Nat → ClassId) (aK aV : Nat → Nat) (B0 : Nat) (hA : ce_Ad ad B0) (F : Nat) (x1 : Int32) (x2 : Int32) (x3 : Int32)  (h : Hp) (r : Hp) (e : f10_reach F x1 x2 x3 h = some r) : ce_Ct l D ad cA B0 (ce_St aK aV B0) y10_reach b10_reach 4 none 0 0 0 0 [.ref (ad 40), .int x1, .int x2, .int x3] h none r := by
  refine ce_enter hA (by decide) rfl (Nat.le_of_ble_eq_true rfl) (fun p e0 s m below meth c ls C hH hl => ?_)
  have hl : lv_has ls 4 [(0, .ref (ad 40)), (1, .int x1), (2, .int x2), (3, .int x3)] := hl
  have hx := C.1
  have hb := C.2.1
  have e : Option.bind _ some = some r := (congrArg (fun z => Option.bind z some) e).trans rfl
  unfold f10_reach at e
  refine lv_aload_n hx hb d10_reach_0 rfl (lv_at hl 0 rfl) ?_
  refine gf_10_9 C hH d10_reach_1 ?_
  refine lv_bipush (v := (10 : Int32)) hx hb d10_reach_4 (by decide) ?_
  refine lv_icmp_ge (tgt := 53) hx hb d10_reach_6 (by decide) (fun hc6 => ?_) (fun hc6 => ?_)
  · have e := ce_if1 e hc6
    exact ce_vret C (ce_sok aK aV B0) hH (Option.some.inj e) d10_reach_53
  · have e := ce_if0 e hc6
    refine lv_aload_n hx hb d10_reach_9 rfl (lv_at hl 0 rfl) ?_
    refine gf_10_22 C hH d10_reach_10 ?_
    refine lv_iload_n hx hb d10_reach_13 rfl (lv_at hl 1 rfl) ?_
    obtain ⟨hi14, e⟩ := ce_gd e
    refine ce_iald C hH lc_43.1 lc_43.2 (ce_in_vp hi14) d10_reach_14 ?_
    refine lv_iconst (v := (-1 : Int32)) hx hb d10_reach_15 (by decide) ?_
    refine lv_icmp_ne (tgt := 53) hx hb d10_reach_16 (by decide) (fun hc16 => ?_) (fun hc16 => ?_)
    · have e := ce_if0 e hc16
      exact ce_vret C (ce_sok aK aV B0) hH (Option.some.inj e) d10_reach_53
    · have e := ce_if1 e hc16
      refine lv_aload_n hx hb d10_reach_19 rfl (lv_at hl 0 rfl) ?_
      refine gf_10_15 C hH d10_reach_20 ?_
      refine lv_aload_n hx hb d10_reach_23 rfl (lv_at hl 0 rfl) ?_
      refine gf_10_9 C hH d10_reach_24 ?_
      refine lv_iload_n hx hb d10_reach_27 rfl (lv_at hl 1 rfl) ?_
      obtain ⟨hi28, e⟩ := ce_gd e
      refine ce_iast C hH lc_41.1 lc_41.2 (ce_in_vp hi28) d10_reach_28 (fun H locs hH => ?_)
      obtain ⟨h_28, eh_28, e⟩ := ce_nmE e
      rw [← eh_28] at hH
      refine lv_aload_n hx hb d10_reach_29 rfl (lv_at hl 0 rfl) ?_
      refine gf_10_19 C hH d10_reach_30 ?_
      refine lv_iload_n hx hb d10_reach_33 rfl (lv_at hl 1 rfl) ?_
      refine lv_iload_n hx hb d10_reach_34 rfl (lv_at hl 2 rfl) ?_
      obtain ⟨hi35, e⟩ := ce_gd e
      refine ce_iast C hH lc_42.1 lc_42.2 (ce_in_vp hi35) d10_reach_35 (fun H locs hH => ?_)
      obtain ⟨h_35, eh_35, e⟩ := ce_nmE e
      rw [← eh_35] at hH
      refine lv_aload_n hx hb d10_reach_36 rfl (lv_at hl 0 rfl) ?_
      refine gf_10_22 C hH d10_reach_37 ?_
      refine lv_iload_n hx hb d10_reach_40 rfl (lv_at hl 1 rfl) ?_
      refine lv_iload_n hx hb d10_reach_41 rfl (lv_at hl 3 rfl) ?_
      obtain ⟨hi42, e⟩ := ce_gd e
      refine ce_iast C hH lc_43.1 lc_43.2 (ce_in_vp hi42) d10_reach_42 (fun H locs hH => ?_)
      obtain ⟨h_42, eh_42, e⟩ := ce_nmE e
      rw [← eh_42] at hH
      refine lv_aload_n hx hb d10_reach_43 rfl (lv_at hl 0 rfl) ?_
      refine lv_dup hx hb d10_reach_44 rfl ?_
      refine gf_10_9 C hH d10_reach_45 ?_
      refine lv_iconst (v := (1 : Int32)) hx hb d10_reach_48 (by decide) ?_
      refine lv_iadd hx hb d10_reach_49 ?_
      refine pf_10_9 C hH d10_reach_50 (fun H locs hH => ?_)
      obtain ⟨h_50, eh_50, e⟩ := ce_nmE e
      rw [← eh_50] at hH
      exact ce_vret C (ce_sok aK aV B0) hH (Option.some.inj e) d10_reach_53
abbrev b10_spread : ByteArray := prog_12_method_4_code
def y10_spread : MethodName := ⟨cn_10, "spread", "(LCableElection$Net;II)V"⟩
theorem d10_spread_0 : decode b10_spread 0 = .ok (.aload_n 0, 1) := by decide +kernel
theorem d10_spread_1 : decode b10_spread 1 = .ok (.getfield 22, 3) := by decide +kernel
theorem d10_spread_4 : decode b10_spread 4 = .ok (.iload_n 2, 1) := by decide +kernel
theorem d10_spread_5 : decode b10_spread 5 = .ok (.iaload, 1) := by decide +kernel
theorem d10_spread_6 : decode b10_spread 6 = .ok (.ifCond .ne 7, 3) := by decide +kernel
theorem d10_spread_9 : decode b10_spread 9 = .ok (.iconst 0, 1) := by decide +kernel
theorem d10_spread_10 : decode b10_spread 10 = .ok (.goto 7, 3) := by decide +kernel
theorem d10_spread_13 : decode b10_spread 13 = .ok (.aload_n 1, 1) := by decide +kernel
theorem d10_spread_14 : decode b10_spread 14 = .ok (.getfield 39, 3) := by decide +kernel
theorem d10_spread_17 : decode b10_spread 17 = .ok (.istore 4, 2) := by decide +kernel
theorem d10_spread_19 : decode b10_spread 19 = .ok (.iconst 0, 1) := by decide +kernel
theorem d10_spread_20 : decode b10_spread 20 = .ok (.istore 5, 2) := by decide +kernel
theorem d10_spread_22 : decode b10_spread 22 = .ok (.iload 5, 2) := by decide +kernel
theorem d10_spread_24 : decode b10_spread 24 = .ok (.aload_n 1, 1) := by decide +kernel
theorem d10_spread_25 : decode b10_spread 25 = .ok (.getfield 44, 3) := by decide +kernel
theorem d10_spread_28 : decode b10_spread 28 = .ok (.iload_n 2, 1) := by decide +kernel
theorem d10_spread_29 : decode b10_spread 29 = .ok (.iaload, 1) := by decide +kernel
theorem d10_spread_30 : decode b10_spread 30 = .ok (.if_icmp .ge 82, 3) := by decide +kernel
theorem d10_spread_33 : decode b10_spread 33 = .ok (.iload_n 2, 1) := by decide +kernel
theorem d10_spread_34 : decode b10_spread 34 = .ok (.iload 5, 2) := by decide +kernel
theorem d10_spread_36 : decode b10_spread 36 = .ok (.invokestatic 47, 3) := by decide +kernel
theorem d10_spread_39 : decode b10_spread 39 = .ok (.istore 6, 2) := by decide +kernel
theorem d10_spread_41 : decode b10_spread 41 = .ok (.aload_n 1, 1) := by decide +kernel
theorem d10_spread_42 : decode b10_spread 42 = .ok (.iload 6, 2) := by decide +kernel
theorem d10_spread_44 : decode b10_spread 44 = .ok (.invokevirtual 51, 3) := by decide +kernel
theorem d10_spread_47 : decode b10_spread 47 = .ok (.ifCond .eq 59, 3) := by decide +kernel
theorem d10_spread_50 : decode b10_spread 50 = .ok (.iload 6, 2) := by decide +kernel
theorem d10_spread_52 : decode b10_spread 52 = .ok (.iload_n 3, 1) := by decide +kernel
theorem d10_spread_53 : decode b10_spread 53 = .ok (.if_icmp .eq 53, 3) := by decide +kernel
theorem d10_spread_56 : decode b10_spread 56 = .ok (.aload_n 1, 1) := by decide +kernel
theorem d10_spread_57 : decode b10_spread 57 = .ok (.getfield 55, 3) := by decide +kernel
theorem d10_spread_60 : decode b10_spread 60 = .ok (.iload 6, 2) := by decide +kernel
theorem d10_spread_62 : decode b10_spread 62 = .ok (.iaload, 1) := by decide +kernel
theorem d10_spread_63 : decode b10_spread 63 = .ok (.iload_n 3, 1) := by decide +kernel
theorem d10_spread_64 : decode b10_spread 64 = .ok (.if_icmp .eq 42, 3) := by decide +kernel
theorem d10_spread_67 : decode b10_spread 67 = .ok (.aload_n 0, 1) := by decide +kernel
theorem d10_spread_68 : decode b10_spread 68 = .ok (.aload_n 1, 1) := by decide +kernel
theorem d10_spread_69 : decode b10_spread 69 = .ok (.getfield 55, 3) := by decide +kernel
theorem d10_spread_72 : decode b10_spread 72 = .ok (.iload 6, 2) := by decide +kernel
theorem d10_spread_74 : decode b10_spread 74 = .ok (.iaload, 1) := by decide +kernel
theorem d10_spread_75 : decode b10_spread 75 = .ok (.invokestatic 58, 3) := by decide +kernel
theorem d10_spread_78 : decode b10_spread 78 = .ok (.aload_n 0, 1) := by decide +kernel
theorem d10_spread_79 : decode b10_spread 79 = .ok (.getfield 19, 3) := by decide +kernel
theorem d10_spread_82 : decode b10_spread 82 = .ok (.iload_n 2, 1) := by decide +kernel
theorem d10_spread_83 : decode b10_spread 83 = .ok (.iaload, 1) := by decide +kernel
theorem d10_spread_84 : decode b10_spread 84 = .ok (.iload 4, 2) := by decide +kernel
theorem d10_spread_86 : decode b10_spread 86 = .ok (.iadd, 1) := by decide +kernel
theorem d10_spread_87 : decode b10_spread 87 = .ok (.aload_n 1, 1) := by decide +kernel
theorem d10_spread_88 : decode b10_spread 88 = .ok (.getfield 62, 3) := by decide +kernel
theorem d10_spread_91 : decode b10_spread 91 = .ok (.iload 6, 2) := by decide +kernel
theorem d10_spread_93 : decode b10_spread 93 = .ok (.iaload, 1) := by decide +kernel
theorem d10_spread_94 : decode b10_spread 94 = .ok (.iadd, 1) := by decide +kernel
theorem d10_spread_95 : decode b10_spread 95 = .ok (.aload_n 0, 1) := by decide +kernel
theorem d10_spread_96 : decode b10_spread 96 = .ok (.getfield 22, 3) := by decide +kernel
theorem d10_spread_99 : decode b10_spread 99 = .ok (.iload_n 2, 1) := by decide +kernel
theorem d10_spread_100 : decode b10_spread 100 = .ok (.iaload, 1) := by decide +kernel
theorem d10_spread_101 : decode b10_spread 101 = .ok (.iconst 1, 1) := by decide +kernel
theorem d10_spread_102 : decode b10_spread 102 = .ok (.iadd, 1) := by decide +kernel
theorem d10_spread_103 : decode b10_spread 103 = .ok (.invokevirtual 31, 3) := by decide +kernel
theorem d10_spread_106 : decode b10_spread 106 = .ok (.iinc 5 1, 3) := by decide +kernel
theorem d10_spread_109 : decode b10_spread 109 = .ok (.goto (-87), 3) := by decide +kernel
theorem d10_spread_112 : decode b10_spread 112 = .ok (.return_, 1) := by decide +kernel
theorem fl_10_39 : Cond.fieldLink cn_10 39 (ft_5 2).1 (ft_5 2).2.1 (ft_5 2).2.2.1 ∈ ce_cm := ce_cm_of (List.mem_of_getElem? (i := 201) (by decide +kernel)) (by decide +kernel)
theorem gf_10_39 (C : ce_Cx p s m args c meth cc nL ret cn_10 D ad cA B0 (ce_St aK aV B0)) (hH : ce_H D ad cA B0 X s h H locs) {k : Nat} (hk : ce_isNet k) (hdg : decode cc pc = .ok (.getfield 39, 3)) (kk : W p l e0 R s m args below meth c H locs cells slots Q (F0 m (pc + 3) ls (.int (h k 2) :: rest))) : W p l e0 R s m args below meth c H locs cells slots Q (F0 m pc ls (.ref (ad k) :: rest)) := by
  rcases hk with rfl | rfl
  · exact ce_get C hH (k := 7) (ci := 5) (j := 2) (N := 11) (sj := none) (by decide) rfl rfl fw_5 (by decide) fl_10_39 rfl hdg kk
  · exact ce_get C hH (k := 14) (ci := 5) (j := 2) (N := 11) (sj := none) (by decide) rfl rfl fw_5 (by decide) fl_10_39 rfl hdg kk
theorem pf_10_39 (C : ce_Cx p s m args c meth cc nL ret cn_10 D ad cA B0 (ce_St aK aV B0)) (hH : ce_H D ad cA B0 X s h H locs) {k : Nat} (hk : ce_isNet k) {x : Int32} (hdg : decode cc pc = .ok (.putfield 39, 3)) (kk : ∀ (H1 : Heap) (locs1 : List Loc), ce_H D ad cA B0 X s (hp_up h k 2 x) H1 locs1 → W p l e0 R s m args below meth c H1 locs1 cells slots Q (F0 m (pc + 3) ls rest)) : W p l e0 R s m args below meth c H locs cells slots Q (F0 m pc ls (.int x :: .ref (ad k) :: rest)) := by
  rcases hk with rfl | rfl
  · exact ce_put C hH (k := 7) (ci := 5) (j := 2) (N := 11) (fy := fy_5) (sj := none) x (by decide) rfl rfl fw_5 fo_5 fn_5 (by decide) fl_10_39 rfl rfl (v := .int x) (by simp [ce_slot, upd]) rfl rfl hdg kk
  · exact ce_put C hH (k := 14) (ci := 5) (j := 2) (N := 11) (fy := fy_5) (sj := none) x (by decide) rfl rfl fw_5 fo_5 fn_5 (by decide) fl_10_39 rfl rfl (v := .int x) (by simp [ce_slot, upd]) rfl rfl hdg kk
theorem fl_10_44 : Cond.fieldLink cn_10 44 (ft_5 5).1 (ft_5 5).2.1 (ft_5 5).2.2.1 ∈ ce_cm := ce_cm_of (List.mem_of_getElem? (i := 218) (by decide +kernel)) (by decide +kernel)
theorem gf_10_44 (C : ce_Cx p s m args c meth cc nL ret cn_10 D ad cA B0 (ce_St aK aV B0)) (hH : ce_H D ad cA B0 X s h H locs) {k : Nat} (hk : ce_isNet k) (hdg : decode cc pc = .ok (.getfield 44, 3)) (kk : W p l e0 R s m args below meth c H locs cells slots Q (F0 m (pc + 3) ls (.ref (ad (k + 1)) :: rest))) : W p l e0 R s m args below meth c H locs cells slots Q (F0 m pc ls (.ref (ad k) :: rest)) := by
  rcases hk with rfl | rfl
  · exact ce_get C hH (k := 7) (ci := 5) (j := 5) (N := 11) (sj := some (some 8)) (by decide) rfl rfl fw_5 (by decide) fl_10_44 rfl hdg kk
  · exact ce_get C hH (k := 14) (ci := 5) (j := 5) (N := 11) (sj := some (some 15)) (by decide) rfl rfl fw_5 (by decide) fl_10_44 rfl hdg kk
theorem fl_10_55 : Cond.fieldLink cn_10 55 (ft_5 9).1 (ft_5 9).2.1 (ft_5 9).2.2.1 ∈ ce_cm := ce_cm_of (List.mem_of_getElem? (i := 233) (by decide +kernel)) (by decide +kernel)
theorem gf_10_55 (C : ce_Cx p s m args c meth cc nL ret cn_10 D ad cA B0 (ce_St aK aV B0)) (hH : ce_H D ad cA B0 X s h H locs) {k : Nat} (hk : ce_isNet k) (hdg : decode cc pc = .ok (.getfield 55, 3)) (kk : W p l e0 R s m args below meth c H locs cells slots Q (F0 m (pc + 3) ls (.ref (ad (k + 5)) :: rest))) : W p l e0 R s m args below meth c H locs cells slots Q (F0 m pc ls (.ref (ad k) :: rest)) := by
  rcases hk with rfl | rfl
  · exact ce_get C hH (k := 7) (ci := 5) (j := 9) (N := 11) (sj := some (some 12)) (by decide) rfl rfl fw_5 (by decide) fl_10_55 rfl hdg kk
  · exact ce_get C hH (k := 14) (ci := 5) (j := 9) (N := 11) (sj := some (some 19)) (by decide) rfl rfl fw_5 (by decide) fl_10_55 rfl hdg kk
theorem fl_10_62 : Cond.fieldLink cn_10 62 (ft_5 10).1 (ft_5 10).2.1 (ft_5 10).2.2.1 ∈ ce_cm := ce_cm_of (List.mem_of_getElem? (i := 238) (by decide +kernel)) (by decide +kernel)
theorem gf_10_62 (C : ce_Cx p s m args c meth cc nL ret cn_10 D ad cA B0 (ce_St aK aV B0)) (hH : ce_H D ad cA B0 X s h H locs) {k : Nat} (hk : ce_isNet k) (hdg : decode cc pc = .ok (.getfield 62, 3)) (kk : W p l e0 R s m args below meth c H locs cells slots Q (F0 m (pc + 3) ls (.ref (ad (k + 6)) :: rest))) : W p l e0 R s m args below meth c H locs cells slots Q (F0 m pc ls (.ref (ad k) :: rest)) := by
  rcases hk with rfl | rfl
  · exact ce_get C hH (k := 7) (ci := 5) (j := 10) (N := 11) (sj := some (some 13)) (by decide) rfl rfl fw_5 (by decide) fl_10_62 rfl hdg kk
  · exact ce_get C hH (k := 14) (ci := 5) (j := 10) (N := 11) (sj := some (some 20)) (by decide) rfl rfl fw_5 (by decide) fl_10_62 rfl hdg kk
theorem lo_40 : 40 < 96 ∧ ∃ sl, ce_lay 40 = .inr (10, sl) := ⟨by decide, _, rfl⟩
theorem mc10_reach : Cond.code y10_reach b10_reach 4 none ∈ ce_cm := ce_cm_of (List.mem_of_getElem? (i := 706) (by decide +kernel)) (by decide +kernel)
theorem ml_10_31 : Cond.methodLink cn_10 31 y10_reach ∈ ce_cm := ce_cm_of (List.mem_of_getElem? (i := 703) (by decide +kernel)) (by decide +kernel)
theorem mi10_reach : Cond.instanceMethod y10_reach ∈ ce_cm := ce_cm_of (List.mem_of_getElem? (i := 705) (by decide +kernel)) (by decide +kernel)
theorem ms10_reach : Cond.selects cn_10 y10_reach y10_reach ∈ ce_cm := ce_cm_of (List.mem_of_getElem? (i := 10) (by decide +kernel)) (by decide +kernel)
theorem mI_10 : Cond.initialized cn_10 ∈ ce_cm := ce_cm_of (List.mem_of_getElem? (i := 98) (by decide +kernel)) (by decide +kernel)
theorem mc11_nodeOf : Cond.code y11_nodeOf b11_nodeOf 1 (some .int) ∈ ce_cm := ce_cm_of (List.mem_of_getElem? (i := 715) (by decide +kernel)) (by decide +kernel)
theorem mt11_nodeOf : Cond.static y11_nodeOf ∈ ce_cm := ce_cm_of (List.mem_of_getElem? (i := 714) (by decide +kernel)) (by decide +kernel)
theorem ml_10_51 : Cond.methodLink cn_10 51 y5_isCabled ∈ ce_cm := ce_cm_of (List.mem_of_getElem? (i := 712) (by decide +kernel)) (by decide +kernel)
def f10_spread_b22 (F : Nat) (k1 : Nat) (x2 : Int32) (x3 : Int32) (x4 : Int32) (x5 : Int32) (h : Hp) : Option ((Int32 × Hp) ⊕ (Hp)) :=
  if ce_in x2 10 = true then
    if (h (k1 + 1) (x2).toNatClampNeg) ≤ x5 then
      some (.inr h)
    else
      Option.bind (f11_endOf F x2 x5 h) (fun o36 =>
        Option.bind (f5_isCabled F k1 o36.1 o36.2) (fun o44 =>
          if o44.1 = 0 then
            some (.inl (x5 + (1 : Int32), o44.2))
          else
            if o36.1 = x3 then
              some (.inl (x5 + (1 : Int32), o44.2))
            else
              if ce_in o36.1 40 = true then
                if (o44.2 (k1 + 5) (o36.1).toNatClampNeg) = x3 then
                  some (.inl (x5 + (1 : Int32), o44.2))
                else
                  if ce_in o36.1 40 = true then
                    Option.bind (f11_nodeOf F (o44.2 (k1 + 5) (o36.1).toNatClampNeg) o44.2) (fun o75 =>
                      if ce_in x2 10 = true then
                        if ce_in o36.1 40 = true then
                          if ce_in x2 10 = true then
                            Option.bind (f10_reach F o75.1 (((o75.2 42 (x2).toNatClampNeg) + x4) + (o75.2 (k1 + 6) (o36.1).toNatClampNeg)) ((o75.2 43 (x2).toNatClampNeg) + (1 : Int32)) o75.2) (fun o103 =>
                              some (.inl (x5 + (1 : Int32), o103)))
                          else none
                        else none
                      else none)
                  else none
              else none))
  else none
set_option maxRecDepth 20000 in
theorem l10_spread_22 (C : ce_Cx p s m args c meth b10_spread 7 none cn_10 D ad cA B0 (ce_St aK aV B0)) (F : Nat) (k1 : Nat) (x2 : Int32) (x3 : Int32) (x4 : Int32) (hk1 : ce_isNet k1) (r : Hp) (g : (Hp) → Option (Hp)) (hx : ∀  (h : Hp) (H : Heap) (locs : List Loc) (ls : Array Slot), ce_H D ad cA B0 [] s h H locs → lv_has ls 7 [] → g h = some r → W p l e0 { frames := 1, cells := 0, slots := 0, locals := 23 } s m args below meth c H locs 0 0 (MQ below (ce_Q D ad cA B0 (ce_St aK aV B0) none r) args s 0 0 (fun q => B0 ≤ q)) (F0 m 112 ls [])) : ∀ (n : Nat) (x5 : Int32) (h : Hp) (H : Heap) (locs : List Loc) (ls : Array Slot), ce_H D ad cA B0 [] s h H locs → lv_has ls 7 [(0, .ref (ad 40)), (1, .ref (ad k1)), (2, .int x2), (3, .int x3), (4, .int x4), (5, .int x5)] → Option.bind (ce_it (fun (st : Int32 × Hp) => f10_spread_b22 F k1 x2 x3 x4 st.1 st.2) n (x5, h)) g = some r → W p l e0 { frames := 1, cells := 0, slots := 0, locals := 23 } s m args below meth c H locs 0 0 (MQ below (ce_Q D ad cA B0 (ce_St aK aV B0) none r) args s 0 0 (fun q => B0 ≤ q)) (F0 m 22 ls []) := by
  intro n
  induction n with
  | zero =>
    intro x5 h H locs ls hH hl e
    exact absurd e (fun z => by cases z)
  | succ n ih =>
    intro x5 h H locs ls hH hl e
    have hx9 := C.1
    have hb := C.2.1
    have e : Option.bind (f10_spread_b22 F k1 x2 x3 x4 x5 h) _ = some r := ce_it_bd e
    unfold f10_spread_b22 at e
    refine lv_iload hx9 hb d10_spread_22 (lv_at hl 5 rfl) ?_
    refine lv_aload_n hx9 hb d10_spread_24 rfl (lv_at hl 1 rfl) ?_
    refine gf_10_44 C hH hk1 d10_spread_25 ?_
    refine lv_iload_n hx9 hb d10_spread_28 rfl (lv_at hl 2 rfl) ?_
    obtain ⟨hi29, e⟩ := ce_gd e
    refine ce_iald C hH (la_Net_1 hk1).1 (la_Net_1 hk1).2 (ce_in_vp hi29) d10_spread_29 ?_
    refine lv_icmp_ge (tgt := 112) hx9 hb d10_spread_30 (by decide) (fun hc30 => ?_) (fun hc30 => ?_)
    · have e := ce_if1 e hc30
      exact hx  h _ _ _ hH (lv_sub hl [] rfl) e
    · have e := ce_if0 e hc30
      refine lv_iload_n hx9 hb d10_spread_33 rfl (lv_at hl 2 rfl) ?_
      refine lv_iload hx9 hb d10_spread_34 (lv_at hl 5 rfl) ?_
      obtain ⟨o36, eo36, e⟩ := ce_bd e
      refine ce_callN (As := [.int x2, .int x5]) (rest := []) C (ce_sok aK aV B0) hH (c11_endOf l D ad cA aK aV B0 C.2.2.2.2.2.2.1 F x2 x5  h o36 eo36) mc11_endOf (ce_nwW C.2.2.2.2.2.2.2.2.2.2 12 rfl) mt11_endOf mI_11 (n := 2) (by decide) rfl ⟨Nat.le_of_ble_eq_true rfl, Nat.le_of_ble_eq_true rfl⟩ ⟨Nat.le_of_ble_eq_true rfl, Nat.le_of_ble_eq_true rfl⟩ hl.1 rfl (Nat.le_of_ble_eq_true rfl) d10_spread_36 (fun H locs hH => ?_)
      refine W.eq (g2 := F0 m 39 ls [.int o36.1]) rfl ?_
      refine lv_istore (lv' := [(6, .int o36.1), (0, .ref (ad 40)), (1, .ref (ad k1)), (2, .int x2), (3, .int x3), (4, .int x4), (5, .int x5)]) hx9 hb d10_spread_39 hl (by decide) rfl (fun ls hl => ?_)
      refine lv_aload_n hx9 hb d10_spread_41 rfl (lv_at hl 2 rfl) ?_
      refine lv_iload hx9 hb d10_spread_42 (lv_at hl 0 rfl) ?_
      obtain ⟨o44, eo44, e⟩ := ce_bd e
      refine ce_callV (As := [.int o36.1]) (rest := []) C (ce_sok aK aV B0) hH (c5_isCabled l D ad cA aK aV B0 C.2.2.2.2.2.2.1 F k1 o36.1 hk1 o36.2 o44 eo44) (lk_Net hk1).1 (lk_Net hk1).2.choose_spec rfl rfl mc5_isCabled ml_10_51 mi5_isCabled ms5_isCabled mI_5 (n := 1) (by decide) rfl ⟨Nat.le_of_ble_eq_true rfl, Nat.le_of_ble_eq_true rfl⟩ ⟨Nat.le_of_ble_eq_true rfl, Nat.le_of_ble_eq_true rfl⟩ hl.1 rfl (Nat.le_of_ble_eq_true rfl) d10_spread_44 (fun H locs hH => ?_)
      refine W.eq (g2 := F0 m 47 ls [.int o44.1]) rfl ?_
      refine lv_if_eq (tgt := 106) hx9 hb d10_spread_47 (by decide) (fun hc47 => ?_) (fun hc47 => ?_)
      · have e := ce_if1 e hc47
        refine lv_iinc (v := x5 + (1 : Int32)) (lv' := [(5, .int (x5 + (1 : Int32))), (6, .int o36.1), (0, .ref (ad 40)), (1, .ref (ad k1)), (2, .int x2), (3, .int x3), (4, .int x4)]) hx9 hb d10_spread_106 hl (k := 6) rfl rfl (by decide) rfl (fun ls hl => ?_)
        refine lv_goto (tgt := 22) hx9 hb d10_spread_109 (by decide) ?_
        exact ih (x5 + (1 : Int32)) o44.2 _ _ _ hH (lv_sub hl [2, 3, 4, 5, 6, 0] rfl) e
      · have e := ce_if0 e hc47
        refine lv_iload hx9 hb d10_spread_50 (lv_at hl 0 rfl) ?_
        refine lv_iload_n hx9 hb d10_spread_52 rfl (lv_at hl 4 rfl) ?_
        refine lv_icmp_eq (tgt := 106) hx9 hb d10_spread_53 (by decide) (fun hc53 => ?_) (fun hc53 => ?_)
        · have e := ce_if1 e hc53
          refine lv_iinc (v := x5 + (1 : Int32)) (lv' := [(5, .int (x5 + (1 : Int32))), (6, .int o36.1), (0, .ref (ad 40)), (1, .ref (ad k1)), (2, .int x2), (3, .int x3), (4, .int x4)]) hx9 hb d10_spread_106 hl (k := 6) rfl rfl (by decide) rfl (fun ls hl => ?_)
          refine lv_goto (tgt := 22) hx9 hb d10_spread_109 (by decide) ?_
          exact ih (x5 + (1 : Int32)) o44.2 _ _ _ hH (lv_sub hl [2, 3, 4, 5, 6, 0] rfl) e
        · have e := ce_if0 e hc53
          refine lv_aload_n hx9 hb d10_spread_56 rfl (lv_at hl 2 rfl) ?_
          refine gf_10_55 C hH hk1 d10_spread_57 ?_
          refine lv_iload hx9 hb d10_spread_60 (lv_at hl 0 rfl) ?_
          obtain ⟨hi62, e⟩ := ce_gd e
          refine ce_iald C hH (la_Net_5 hk1).1 (la_Net_5 hk1).2 (ce_in_vp hi62) d10_spread_62 ?_
          refine lv_iload_n hx9 hb d10_spread_63 rfl (lv_at hl 4 rfl) ?_
          refine lv_icmp_eq (tgt := 106) hx9 hb d10_spread_64 (by decide) (fun hc64 => ?_) (fun hc64 => ?_)
          · have e := ce_if1 e hc64
            refine lv_iinc (v := x5 + (1 : Int32)) (lv' := [(5, .int (x5 + (1 : Int32))), (6, .int o36.1), (0, .ref (ad 40)), (1, .ref (ad k1)), (2, .int x2), (3, .int x3), (4, .int x4)]) hx9 hb d10_spread_106 hl (k := 6) rfl rfl (by decide) rfl (fun ls hl => ?_)
            refine lv_goto (tgt := 22) hx9 hb d10_spread_109 (by decide) ?_
            exact ih (x5 + (1 : Int32)) o44.2 _ _ _ hH (lv_sub hl [2, 3, 4, 5, 6, 0] rfl) e
          · have e := ce_if0 e hc64
            refine lv_aload_n hx9 hb d10_spread_67 rfl (lv_at hl 1 rfl) ?_
            refine lv_aload_n hx9 hb d10_spread_68 rfl (lv_at hl 2 rfl) ?_
            refine gf_10_55 C hH hk1 d10_spread_69 ?_
            refine lv_iload hx9 hb d10_spread_72 (lv_at hl 0 rfl) ?_
            obtain ⟨hi74, e⟩ := ce_gd e
            refine ce_iald C hH (la_Net_5 hk1).1 (la_Net_5 hk1).2 (ce_in_vp hi74) d10_spread_74 ?_
            obtain ⟨o75, eo75, e⟩ := ce_bd e
            refine ce_callN (As := [.int (o44.2 (k1 + 5) (o36.1).toNatClampNeg)]) (rest := [.ref (ad 40)]) C (ce_sok aK aV B0) hH (c11_nodeOf l D ad cA aK aV B0 C.2.2.2.2.2.2.1 F (o44.2 (k1 + 5) (o36.1).toNatClampNeg)  o44.2 o75 eo75) mc11_nodeOf (ce_nwW C.2.2.2.2.2.2.2.2.2.2 13 rfl) mt11_nodeOf mI_11 (n := 1) (by decide) rfl ⟨Nat.le_of_ble_eq_true rfl, Nat.le_of_ble_eq_true rfl⟩ ⟨Nat.le_of_ble_eq_true rfl, Nat.le_of_ble_eq_true rfl⟩ hl.1 rfl (Nat.le_of_ble_eq_true rfl) d10_spread_75 (fun H locs hH => ?_)
            refine W.eq (g2 := F0 m 78 ls [.int o75.1, .ref (ad 40)]) rfl ?_
            refine lv_aload_n hx9 hb d10_spread_78 rfl (lv_at hl 1 rfl) ?_
            refine gf_10_19 C hH d10_spread_79 ?_
            refine lv_iload_n hx9 hb d10_spread_82 rfl (lv_at hl 3 rfl) ?_
            obtain ⟨hi83, e⟩ := ce_gd e
            refine ce_iald C hH lc_42.1 lc_42.2 (ce_in_vp hi83) d10_spread_83 ?_
            refine lv_iload hx9 hb d10_spread_84 (lv_at hl 5 rfl) ?_
            refine lv_iadd hx9 hb d10_spread_86 ?_
            refine lv_aload_n hx9 hb d10_spread_87 rfl (lv_at hl 2 rfl) ?_
            refine gf_10_62 C hH hk1 d10_spread_88 ?_
            refine lv_iload hx9 hb d10_spread_91 (lv_at hl 0 rfl) ?_
            obtain ⟨hi93, e⟩ := ce_gd e
            refine ce_iald C hH (la_Net_6 hk1).1 (la_Net_6 hk1).2 (ce_in_vp hi93) d10_spread_93 ?_
            refine lv_iadd hx9 hb d10_spread_94 ?_
            refine lv_aload_n hx9 hb d10_spread_95 rfl (lv_at hl 1 rfl) ?_
            refine gf_10_22 C hH d10_spread_96 ?_
            refine lv_iload_n hx9 hb d10_spread_99 rfl (lv_at hl 3 rfl) ?_
            obtain ⟨hi100, e⟩ := ce_gd e
            refine ce_iald C hH lc_43.1 lc_43.2 (ce_in_vp hi100) d10_spread_100 ?_
            refine lv_iconst (v := (1 : Int32)) hx9 hb d10_spread_101 (by decide) ?_
            refine lv_iadd hx9 hb d10_spread_102 ?_
            obtain ⟨o103, eo103, e⟩ := ce_bd e
            refine ce_callV (As := [.int o75.1, .int (((o75.2 42 (x2).toNatClampNeg) + x4) + (o75.2 (k1 + 6) (o36.1).toNatClampNeg)), .int ((o75.2 43 (x2).toNatClampNeg) + (1 : Int32))]) (rest := []) C (ce_sok aK aV B0) hH (c10_reach l D ad cA aK aV B0 C.2.2.2.2.2.2.1 F o75.1 (((o75.2 42 (x2).toNatClampNeg) + x4) + (o75.2 (k1 + 6) (o36.1).toNatClampNeg)) ((o75.2 43 (x2).toNatClampNeg) + (1 : Int32))  o75.2 o103 eo103) lo_40.1 lo_40.2.choose_spec rfl rfl mc10_reach ml_10_31 mi10_reach ms10_reach mI_10 (n := 3) (by decide) rfl ⟨Nat.le_of_ble_eq_true rfl, Nat.le_of_ble_eq_true rfl⟩ ⟨Nat.le_of_ble_eq_true rfl, Nat.le_of_ble_eq_true rfl⟩ hl.1 rfl (Nat.le_of_ble_eq_true rfl) d10_spread_103 (fun H locs hH => ?_)
            refine W.eq (g2 := F0 m 106 ls []) rfl ?_
            refine lv_iinc (v := x5 + (1 : Int32)) (lv' := [(5, .int (x5 + (1 : Int32))), (6, .int o36.1), (0, .ref (ad 40)), (1, .ref (ad k1)), (2, .int x2), (3, .int x3), (4, .int x4)]) hx9 hb d10_spread_106 hl (k := 6) rfl rfl (by decide) rfl (fun ls hl => ?_)
            refine lv_goto (tgt := 22) hx9 hb d10_spread_109 (by decide) ?_
            exact ih (x5 + (1 : Int32)) o103 _ _ _ hH (lv_sub hl [2, 3, 4, 5, 6, 0] rfl) e
def f10_spread (F : Nat) (k1 : Nat) (x2 : Int32) (x3 : Int32) (h : Hp) : Option (Hp) :=
  if ce_in x2 10 = true then
    if (h 43 (x2).toNatClampNeg) = 0 then
      Option.bind (ce_it (fun (st : Int32 × Hp) => f10_spread_b22 F k1 x2 x3 (0 : Int32) st.1 st.2) F ((0 : Int32), h)) (fun o22 =>
        some o22)
    else
      Option.bind (ce_it (fun (st : Int32 × Hp) => f10_spread_b22 F k1 x2 x3 (h k1 2) st.1 st.2) F ((0 : Int32), h)) (fun o22 =>
        some o22)
  else none
set_option maxRecDepth 20000 in
theorem c10_spread (l : Launch) (D : va_G) (ad : Nat → Nat) (cA : Nat → ClassId) (aK aV : Nat → Nat) (B0 : Nat) (hA : ce_Ad ad B0) (F : Nat) (k1 : Nat) (x2 : Int32) (x3 : Int32) (hk1 : ce_isNet k1) (h : Hp) (r : Hp) (e : f10_spread F k1 x2 x3 h = some r) : ce_Ct l D ad cA B0 (ce_St aK aV B0) y10_spread b10_spread 7 none 1 23 0 0 [.ref (ad 40), .ref (ad k1), .int x2, .int x3] h none r := by
  refine ce_enter hA (by decide) rfl (Nat.le_of_ble_eq_true rfl) (fun p e0 s m below meth c ls C hH hl => ?_)
  have hl : lv_has ls 7 [(0, .ref (ad 40)), (1, .ref (ad k1)), (2, .int x2), (3, .int x3)] := hl
  have hx := C.1
  have hb := C.2.1
  have e : Option.bind _ some = some r := (congrArg (fun z => Option.bind z some) e).trans rfl
  unfold f10_spread at e
  refine lv_aload_n hx hb d10_spread_0 rfl (lv_at hl 0 rfl) ?_
  refine gf_10_22 C hH d10_spread_1 ?_
  refine lv_iload_n hx hb d10_spread_4 rfl (lv_at hl 2 rfl) ?_
  obtain ⟨hi5, e⟩ := ce_gd e
  refine ce_iald C hH lc_43.1 lc_43.2 (ce_in_vp hi5) d10_spread_5 ?_
  refine lv_if_ne (tgt := 13) hx hb d10_spread_6 (by decide) (fun hc6 => ?_) (fun hc6 => ?_)
  · have e := ce_if0 e hc6
    refine lv_aload_n hx hb d10_spread_13 rfl (lv_at hl 1 rfl) ?_
    refine gf_10_39 C hH hk1 d10_spread_14 ?_
    refine lv_istore (lv' := [(4, .int (h k1 2)), (0, .ref (ad 40)), (1, .ref (ad k1)), (2, .int x2), (3, .int x3)]) hx hb d10_spread_17 hl (by decide) rfl (fun ls hl => ?_)
    refine lv_iconst (v := (0 : Int32)) hx hb d10_spread_19 (by decide) ?_
    refine lv_istore (lv' := [(5, .int (0 : Int32)), (4, .int (h k1 2)), (0, .ref (ad 40)), (1, .ref (ad k1)), (2, .int x2), (3, .int x3)]) hx hb d10_spread_20 hl (by decide) rfl (fun ls hl => ?_)
    refine l10_spread_22 C F k1 x2 x3 (h k1 2) hk1 r _ (fun  h_22 H locs ls hH hl e => ?_) F (0 : Int32) h _ _ _ hH (lv_sub hl [2, 3, 4, 5, 1, 0] rfl) (ce_as e)
    try dsimp only at e
    exact ce_vret C (ce_sok aK aV B0) hH (Option.some.inj e) d10_spread_112
  · have e := ce_if1 e hc6
    refine lv_iconst (v := (0 : Int32)) hx hb d10_spread_9 (by decide) ?_
    refine lv_goto (tgt := 17) hx hb d10_spread_10 (by decide) ?_
    refine lv_istore (lv' := [(4, .int (0 : Int32)), (0, .ref (ad 40)), (1, .ref (ad k1)), (2, .int x2), (3, .int x3)]) hx hb d10_spread_17 hl (by decide) rfl (fun ls hl => ?_)
    refine lv_iconst (v := (0 : Int32)) hx hb d10_spread_19 (by decide) ?_
    refine lv_istore (lv' := [(5, .int (0 : Int32)), (4, .int (0 : Int32)), (0, .ref (ad 40)), (1, .ref (ad k1)), (2, .int x2), (3, .int x3)]) hx hb d10_spread_20 hl (by decide) rfl (fun ls hl => ?_)
    refine l10_spread_22 C F k1 x2 x3 (0 : Int32) hk1 r _ (fun  h_22 H locs ls hH hl e => ?_) F (0 : Int32) h _ _ _ hH (lv_sub hl [2, 3, 4, 5, 1, 0] rfl) (ce_as e)
    try dsimp only at e
    exact ce_vret C (ce_sok aK aV B0) hH (Option.some.inj e) d10_spread_112
end C2
