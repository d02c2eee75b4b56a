-- C15: functions and contracts, written by wip/whole/gen (mgen.py, walk.py, walk2.py) out of the bytecode
section C15
variable {p : Program} {l : Launch} {e0 : Env} {R : Room} {s : State} {m : MethodId} {args : Array Value} {below : List Frame} {meth : Method} {c : Code} {H : Heap} {locs : List Loc} {cells slots : Nat} {Q : State → Prop}
variable {cc : ByteArray} {pc nL : Nat} {ret : Option FieldType} {ls : Array Slot} {rest : List Value} {D : va_G} {ad : Nat → Nat} {cA : Nat → ClassId} {B0 : Nat} {X : va_W} {h : Hp} {aK aV : Nat → Nat}
abbrev b12_runs : ByteArray := prog_14_method_37_code
def y12_runs : MethodName := ⟨cn_12, "runs", "()V"⟩
theorem d12_runs_0 : decode b12_runs 0 = .ok (.iconst 0, 1) := by decide +kernel
theorem d12_runs_1 : decode b12_runs 1 = .ok (.istore_n 1, 1) := by decide +kernel
theorem d12_runs_2 : decode b12_runs 2 = .ok (.iload_n 1, 1) := by decide +kernel
theorem d12_runs_3 : decode b12_runs 3 = .ok (.bipush 40, 2) := by decide +kernel
theorem d12_runs_5 : decode b12_runs 5 = .ok (.if_icmp .ge 17, 3) := by decide +kernel
theorem d12_runs_8 : decode b12_runs 8 = .ok (.aload_n 0, 1) := by decide +kernel
theorem d12_runs_9 : decode b12_runs 9 = .ok (.getfield 35, 3) := by decide +kernel
theorem d12_runs_12 : decode b12_runs 12 = .ok (.iload_n 1, 1) := by decide +kernel
theorem d12_runs_13 : decode b12_runs 13 = .ok (.ldc 245, 2) := by decide +kernel
theorem d12_runs_15 : decode b12_runs 15 = .ok (.iastore, 1) := by decide +kernel
theorem d12_runs_16 : decode b12_runs 16 = .ok (.iinc 1 1, 3) := by decide +kernel
theorem d12_runs_19 : decode b12_runs 19 = .ok (.goto (-17), 3) := by decide +kernel
theorem d12_runs_22 : decode b12_runs 22 = .ok (.iconst 0, 1) := by decide +kernel
theorem d12_runs_23 : decode b12_runs 23 = .ok (.istore_n 1, 1) := by decide +kernel
theorem d12_runs_24 : decode b12_runs 24 = .ok (.iload_n 1, 1) := by decide +kernel
theorem d12_runs_25 : decode b12_runs 25 = .ok (.bipush 10, 2) := by decide +kernel
theorem d12_runs_27 : decode b12_runs 27 = .ok (.if_icmp .ge 44, 3) := by decide +kernel
theorem d12_runs_30 : decode b12_runs 30 = .ok (.aload_n 0, 1) := by decide +kernel
theorem d12_runs_31 : decode b12_runs 31 = .ok (.getfield 38, 3) := by decide +kernel
theorem d12_runs_34 : decode b12_runs 34 = .ok (.iload_n 1, 1) := by decide +kernel
theorem d12_runs_35 : decode b12_runs 35 = .ok (.iconst (-1), 1) := by decide +kernel
theorem d12_runs_36 : decode b12_runs 36 = .ok (.iastore, 1) := by decide +kernel
theorem d12_runs_37 : decode b12_runs 37 = .ok (.aload_n 0, 1) := by decide +kernel
theorem d12_runs_38 : decode b12_runs 38 = .ok (.getfield 41, 3) := by decide +kernel
theorem d12_runs_41 : decode b12_runs 41 = .ok (.iload_n 1, 1) := by decide +kernel
theorem d12_runs_42 : decode b12_runs 42 = .ok (.iconst (-1), 1) := by decide +kernel
theorem d12_runs_43 : decode b12_runs 43 = .ok (.iastore, 1) := by decide +kernel
theorem d12_runs_44 : decode b12_runs 44 = .ok (.aload_n 0, 1) := by decide +kernel
theorem d12_runs_45 : decode b12_runs 45 = .ok (.getfield 44, 3) := by decide +kernel
theorem d12_runs_48 : decode b12_runs 48 = .ok (.iload_n 1, 1) := by decide +kernel
theorem d12_runs_49 : decode b12_runs 49 = .ok (.iconst (-1), 1) := by decide +kernel
theorem d12_runs_50 : decode b12_runs 50 = .ok (.iastore, 1) := by decide +kernel
theorem d12_runs_51 : decode b12_runs 51 = .ok (.aload_n 0, 1) := by decide +kernel
theorem d12_runs_52 : decode b12_runs 52 = .ok (.getfield 47, 3) := by decide +kernel
theorem d12_runs_55 : decode b12_runs 55 = .ok (.iload_n 1, 1) := by decide +kernel
theorem d12_runs_56 : decode b12_runs 56 = .ok (.iconst (-1), 1) := by decide +kernel
theorem d12_runs_57 : decode b12_runs 57 = .ok (.iastore, 1) := by decide +kernel
theorem d12_runs_58 : decode b12_runs 58 = .ok (.aload_n 0, 1) := by decide +kernel
theorem d12_runs_59 : decode b12_runs 59 = .ok (.getfield 50, 3) := by decide +kernel
theorem d12_runs_62 : decode b12_runs 62 = .ok (.iload_n 1, 1) := by decide +kernel
theorem d12_runs_63 : decode b12_runs 63 = .ok (.iconst 0, 1) := by decide +kernel
theorem d12_runs_64 : decode b12_runs 64 = .ok (.iastore, 1) := by decide +kernel
theorem d12_runs_65 : decode b12_runs 65 = .ok (.iinc 1 1, 3) := by decide +kernel
theorem d12_runs_68 : decode b12_runs 68 = .ok (.goto (-44), 3) := by decide +kernel
theorem d12_runs_71 : decode b12_runs 71 = .ok (.iconst 0, 1) := by decide +kernel
theorem d12_runs_72 : decode b12_runs 72 = .ok (.istore_n 1, 1) := by decide +kernel
theorem d12_runs_73 : decode b12_runs 73 = .ok (.iload_n 1, 1) := by decide +kernel
theorem d12_runs_74 : decode b12_runs 74 = .ok (.sipush 700, 3) := by decide +kernel
theorem d12_runs_77 : decode b12_runs 77 = .ok (.if_icmp .ge 53, 3) := by decide +kernel
theorem d12_runs_80 : decode b12_runs 80 = .ok (.iconst 0, 1) := by decide +kernel
theorem d12_runs_81 : decode b12_runs 81 = .ok (.istore_n 2, 1) := by decide +kernel
theorem d12_runs_82 : decode b12_runs 82 = .ok (.iload_n 2, 1) := by decide +kernel
theorem d12_runs_83 : decode b12_runs 83 = .ok (.aload_n 0, 1) := by decide +kernel
theorem d12_runs_84 : decode b12_runs 84 = .ok (.getfield 7, 3) := by decide +kernel
theorem d12_runs_87 : decode b12_runs 87 = .ok (.iconst 2, 1) := by decide +kernel
theorem d12_runs_88 : decode b12_runs 88 = .ok (.iaload, 1) := by decide +kernel
theorem d12_runs_89 : decode b12_runs 89 = .ok (.if_icmp .ge 35, 3) := by decide +kernel
theorem d12_runs_92 : decode b12_runs 92 = .ok (.aload_n 0, 1) := by decide +kernel
theorem d12_runs_93 : decode b12_runs 93 = .ok (.getfield 38, 3) := by decide +kernel
theorem d12_runs_96 : decode b12_runs 96 = .ok (.iload_n 2, 1) := by decide +kernel
theorem d12_runs_97 : decode b12_runs 97 = .ok (.iaload, 1) := by decide +kernel
theorem d12_runs_98 : decode b12_runs 98 = .ok (.iconst (-1), 1) := by decide +kernel
theorem d12_runs_99 : decode b12_runs 99 = .ok (.if_icmp .ne 19, 3) := by decide +kernel
theorem d12_runs_102 : decode b12_runs 102 = .ok (.aload_n 0, 1) := by decide +kernel
theorem d12_runs_103 : decode b12_runs 103 = .ok (.getfield 47, 3) := by decide +kernel
theorem d12_runs_106 : decode b12_runs 106 = .ok (.iload_n 2, 1) := by decide +kernel
theorem d12_runs_107 : decode b12_runs 107 = .ok (.iaload, 1) := by decide +kernel
theorem d12_runs_108 : decode b12_runs 108 = .ok (.iconst (-1), 1) := by decide +kernel
theorem d12_runs_109 : decode b12_runs 109 = .ok (.if_icmp .ne 9, 3) := by decide +kernel
theorem d12_runs_112 : decode b12_runs 112 = .ok (.aload_n 0, 1) := by decide +kernel
theorem d12_runs_113 : decode b12_runs 113 = .ok (.iload_n 2, 1) := by decide +kernel
theorem d12_runs_114 : decode b12_runs 114 = .ok (.iload_n 1, 1) := by decide +kernel
theorem d12_runs_115 : decode b12_runs 115 = .ok (.invokevirtual 246, 3) := by decide +kernel
theorem d12_runs_118 : decode b12_runs 118 = .ok (.iinc 2 1, 3) := by decide +kernel
theorem d12_runs_121 : decode b12_runs 121 = .ok (.goto (-39), 3) := by decide +kernel
theorem d12_runs_124 : decode b12_runs 124 = .ok (.iinc 1 1, 3) := by decide +kernel
theorem d12_runs_127 : decode b12_runs 127 = .ok (.goto (-54), 3) := by decide +kernel
theorem d12_runs_130 : decode b12_runs 130 = .ok (.iconst 0, 1) := by decide +kernel
theorem d12_runs_131 : decode b12_runs 131 = .ok (.istore_n 1, 1) := by decide +kernel
theorem d12_runs_132 : decode b12_runs 132 = .ok (.iload_n 1, 1) := by decide +kernel
theorem d12_runs_133 : decode b12_runs 133 = .ok (.aload_n 0, 1) := by decide +kernel
theorem d12_runs_134 : decode b12_runs 134 = .ok (.getfield 7, 3) := by decide +kernel
theorem d12_runs_137 : decode b12_runs 137 = .ok (.iconst 2, 1) := by decide +kernel
theorem d12_runs_138 : decode b12_runs 138 = .ok (.iaload, 1) := by decide +kernel
theorem d12_runs_139 : decode b12_runs 139 = .ok (.if_icmp .ge 14, 3) := by decide +kernel
theorem d12_runs_142 : decode b12_runs 142 = .ok (.aload_n 0, 1) := by decide +kernel
theorem d12_runs_143 : decode b12_runs 143 = .ok (.iload_n 1, 1) := by decide +kernel
theorem d12_runs_144 : decode b12_runs 144 = .ok (.invokevirtual 250, 3) := by decide +kernel
theorem d12_runs_147 : decode b12_runs 147 = .ok (.iinc 1 1, 3) := by decide +kernel
theorem d12_runs_150 : decode b12_runs 150 = .ok (.goto (-18), 3) := by decide +kernel
theorem d12_runs_153 : decode b12_runs 153 = .ok (.iconst 0, 1) := by decide +kernel
theorem d12_runs_154 : decode b12_runs 154 = .ok (.istore_n 1, 1) := by decide +kernel
theorem d12_runs_155 : decode b12_runs 155 = .ok (.iload_n 1, 1) := by decide +kernel
theorem d12_runs_156 : decode b12_runs 156 = .ok (.aload_n 0, 1) := by decide +kernel
theorem d12_runs_157 : decode b12_runs 157 = .ok (.getfield 7, 3) := by decide +kernel
theorem d12_runs_160 : decode b12_runs 160 = .ok (.iconst 2, 1) := by decide +kernel
theorem d12_runs_161 : decode b12_runs 161 = .ok (.iaload, 1) := by decide +kernel
theorem d12_runs_162 : decode b12_runs 162 = .ok (.if_icmp .ge 35, 3) := by decide +kernel
theorem d12_runs_165 : decode b12_runs 165 = .ok (.aload_n 0, 1) := by decide +kernel
theorem d12_runs_166 : decode b12_runs 166 = .ok (.getfield 53, 3) := by decide +kernel
theorem d12_runs_169 : decode b12_runs 169 = .ok (.iload_n 1, 1) := by decide +kernel
theorem d12_runs_170 : decode b12_runs 170 = .ok (.aload_n 0, 1) := by decide +kernel
theorem d12_runs_171 : decode b12_runs 171 = .ok (.getfield 47, 3) := by decide +kernel
theorem d12_runs_174 : decode b12_runs 174 = .ok (.iload_n 1, 1) := by decide +kernel
theorem d12_runs_175 : decode b12_runs 175 = .ok (.iaload, 1) := by decide +kernel
theorem d12_runs_176 : decode b12_runs 176 = .ok (.iconst (-1), 1) := by decide +kernel
theorem d12_runs_177 : decode b12_runs 177 = .ok (.if_icmp .ne 12, 3) := by decide +kernel
theorem d12_runs_180 : decode b12_runs 180 = .ok (.aload_n 0, 1) := by decide +kernel
theorem d12_runs_181 : decode b12_runs 181 = .ok (.getfield 41, 3) := by decide +kernel
theorem d12_runs_184 : decode b12_runs 184 = .ok (.iload_n 1, 1) := by decide +kernel
theorem d12_runs_185 : decode b12_runs 185 = .ok (.iaload, 1) := by decide +kernel
theorem d12_runs_186 : decode b12_runs 186 = .ok (.goto 4, 3) := by decide +kernel
theorem d12_runs_189 : decode b12_runs 189 = .ok (.iconst (-1), 1) := by decide +kernel
theorem d12_runs_190 : decode b12_runs 190 = .ok (.iastore, 1) := by decide +kernel
theorem d12_runs_191 : decode b12_runs 191 = .ok (.iinc 1 1, 3) := by decide +kernel
theorem d12_runs_194 : decode b12_runs 194 = .ok (.goto (-39), 3) := by decide +kernel
theorem d12_runs_197 : decode b12_runs 197 = .ok (.return_, 1) := by decide +kernel
theorem mk_12_245 : Cond.constant cn_12 245 (100000) ∈ ce_cm := ce_cm_of (List.mem_of_getElem? (i := 1401) (by decide +kernel)) (by decide +kernel)
theorem mc12_goes : Cond.code y12_goes b12_goes 6 none ∈ ce_cm := ce_cm_of (List.mem_of_getElem? (i := 1405) (by decide +kernel)) (by decide +kernel)
theorem ml_12_246 : Cond.methodLink cn_12 246 y12_goes ∈ ce_cm := ce_cm_of (List.mem_of_getElem? (i := 1402) (by decide +kernel)) (by decide +kernel)
theorem mi12_goes : Cond.instanceMethod y12_goes ∈ ce_cm := ce_cm_of (List.mem_of_getElem? (i := 1404) (by decide +kernel)) (by decide +kernel)
theorem ms12_goes : Cond.selects cn_12 y12_goes y12_goes ∈ ce_cm := ce_cm_of (List.mem_of_getElem? (i := 57) (by decide +kernel)) (by decide +kernel)
theorem mc12_meets : Cond.code y12_meets b12_meets 9 none ∈ ce_cm := ce_cm_of (List.mem_of_getElem? (i := 1409) (by decide +kernel)) (by decide +kernel)
theorem ml_12_250 : Cond.methodLink cn_12 250 y12_meets ∈ ce_cm := ce_cm_of (List.mem_of_getElem? (i := 1406) (by decide +kernel)) (by decide +kernel)
theorem mi12_meets : Cond.instanceMethod y12_meets ∈ ce_cm := ce_cm_of (List.mem_of_getElem? (i := 1408) (by decide +kernel)) (by decide +kernel)
theorem ms12_meets : Cond.selects cn_12 y12_meets y12_meets ∈ ce_cm := ce_cm_of (List.mem_of_getElem? (i := 58) (by decide +kernel)) (by decide +kernel)
theorem fl_12_53 : Cond.fieldLink cn_12 53 (ft_12 22).1 (ft_12 22).2.1 (ft_12 22).2.2.1 ∈ ce_cm := ce_cm_of (List.mem_of_getElem? (i := 1143) (by decide +kernel)) (by decide +kernel)
theorem gf_12_53 (C : ce_Cx p s m args c meth cc nL ret cn_12 D ad cA B0 (ce_St aK aV B0)) (hH : ce_H D ad cA B0 X s h H locs) (hdg : decode cc pc = .ok (.getfield 53, 3)) (kk : W p l e0 R s m args below meth c H locs cells slots Q (F0 m (pc + 3) ls (.ref (ad 82) :: rest))) : W p l e0 R s m args below meth c H locs cells slots Q (F0 m pc ls (.ref (ad 68) :: rest)) := by
  exact ce_get C hH (k := 68) (ci := 12) (j := 22) (N := 43) (sj := some (some 82)) (by decide) rfl rfl fw_12 (by decide) fl_12_53 rfl hdg kk
theorem lc_82 : 82 < 96 ∧ ce_lay 82 = .inl (0, 10) := ⟨by decide, rfl⟩
def f12_runs_b2 (F : Nat) (x1 : Int32) (h : Hp) : Option ((Int32 × Hp) ⊕ (Hp)) :=
  if (40 : Int32) ≤ x1 then
    some (.inr h)
  else
    if ce_in x1 40 = true then
      ce_nm (hp_up h 76 (x1).toNatClampNeg (100000 : Int32)) (fun h_15 =>
        some (.inl (x1 + (1 : Int32), h_15)))
    else none
set_option maxRecDepth 20000 in
theorem l12_runs_2 (C : ce_Cx p s m args c meth b12_runs 3 none cn_12 D ad cA B0 (ce_St aK aV B0)) (F : Nat)   (r : Hp) (g : (Hp) → Option (Hp)) (hx : ∀  (h : Hp) (H : Heap) (locs : List Loc) (ls : Array Slot), ce_H D ad cA B0 [] s h H locs → lv_has ls 3 [(0, .ref (ad 68))] → g h = some r → W p l e0 { frames := 2, cells := 0, slots := 0, locals := 52 } s m args below meth c H locs 0 0 (MQ below (ce_Q D ad cA B0 (ce_St aK aV B0) none r) args s 0 0 (fun q => B0 ≤ q)) (F0 m 22 ls [])) : ∀ (n : Nat) (x1 : Int32) (h : Hp) (H : Heap) (locs : List Loc) (ls : Array Slot), ce_H D ad cA B0 [] s h H locs → lv_has ls 3 [(0, .ref (ad 68)), (1, .int x1)] → Option.bind (ce_it (fun (st : Int32 × Hp) => f12_runs_b2 F  st.1 st.2) n (x1, h)) g = some r → W p l e0 { frames := 2, cells := 0, slots := 0, locals := 52 } s m args below meth c H locs 0 0 (MQ below (ce_Q D ad cA B0 (ce_St aK aV B0) none r) args s 0 0 (fun q => B0 ≤ q)) (F0 m 2 ls []) := by
  intro n
  induction n with
  | zero =>
    intro x1 h H locs ls hH hl e
    exact absurd e (fun z => by cases z)
  | succ n ih =>
    intro x1 h H locs ls hH hl e
    have hx9 := C.1
    have hb := C.2.1
    have e : Option.bind (f12_runs_b2 F  x1 h) _ = some r := ce_it_bd e
    unfold f12_runs_b2 at e
    refine lv_iload_n hx9 hb d12_runs_2 rfl (lv_at hl 1 rfl) ?_
    refine lv_bipush (v := (40 : Int32)) hx9 hb d12_runs_3 (by decide) ?_
    refine lv_icmp_ge (tgt := 22) hx9 hb d12_runs_5 (by decide) (fun hc5 => ?_) (fun hc5 => ?_)
    · have e := ce_if1 e hc5
      exact hx  h _ _ _ hH (lv_sub hl [0] rfl) e
    · have e := ce_if0 e hc5
      refine lv_aload_n hx9 hb d12_runs_8 rfl (lv_at hl 0 rfl) ?_
      refine gf_12_35 C hH d12_runs_9 ?_
      refine lv_iload_n hx9 hb d12_runs_12 rfl (lv_at hl 1 rfl) ?_
      refine lv_ldc (v := (100000 : Int32)) hx9 hb C.2.2.2.1 (C.2.2.2.2.1 _ mk_12_245) d12_runs_13 ?_
      obtain ⟨hi15, e⟩ := ce_gd e
      refine ce_iast C hH lc_76.1 lc_76.2 (ce_in_vp hi15) d12_runs_15 (fun H locs hH => ?_)
      obtain ⟨h_15, eh_15, e⟩ := ce_nmE e
      rw [← eh_15] at hH
      refine lv_iinc (v := x1 + (1 : Int32)) (lv' := [(1, .int (x1 + (1 : Int32))), (0, .ref (ad 68))]) hx9 hb d12_runs_16 hl (k := 1) rfl rfl (by decide) rfl (fun ls hl => ?_)
      refine lv_goto (tgt := 2) hx9 hb d12_runs_19 (by decide) ?_
      exact ih (x1 + (1 : Int32)) h_15 _ _ _ hH (lv_sub hl [1, 0] rfl) e
def f12_runs_b24 (F : Nat) (x1 : Int32) (h : Hp) : Option ((Int32 × Hp) ⊕ (Hp)) :=
  if (10 : Int32) ≤ x1 then
    some (.inr h)
  else
    if ce_in x1 10 = true then
      ce_nm (hp_up h 77 (x1).toNatClampNeg (-1 : Int32)) (fun h_36 =>
        if ce_in x1 10 = true then
          ce_nm (hp_up h_36 78 (x1).toNatClampNeg (-1 : Int32)) (fun h_43 =>
            if ce_in x1 10 = true then
              ce_nm (hp_up h_43 79 (x1).toNatClampNeg (-1 : Int32)) (fun h_50 =>
                if ce_in x1 10 = true then
                  ce_nm (hp_up h_50 80 (x1).toNatClampNeg (-1 : Int32)) (fun h_57 =>
                    if ce_in x1 10 = true then
                      ce_nm (hp_up h_57 81 (x1).toNatClampNeg (0 : Int32)) (fun h_64 =>
                        some (.inl (x1 + (1 : Int32), h_64)))
                    else none)
                else none)
            else none)
        else none)
    else none
set_option maxRecDepth 20000 in
theorem l12_runs_24 (C : ce_Cx p s m args c meth b12_runs 3 none cn_12 D ad cA B0 (ce_St aK aV B0)) (F : Nat)   (r : Hp) (g : (Hp) → Option (Hp)) (hx : ∀  (h : Hp) (H : Heap) (locs : List Loc) (ls : Array Slot), ce_H D ad cA B0 [] s h H locs → lv_has ls 3 [(0, .ref (ad 68))] → g h = some r → W p l e0 { frames := 2, cells := 0, slots := 0, locals := 52 } s m args below meth c H locs 0 0 (MQ below (ce_Q D ad cA B0 (ce_St aK aV B0) none r) args s 0 0 (fun q => B0 ≤ q)) (F0 m 71 ls [])) : ∀ (n : Nat) (x1 : Int32) (h : Hp) (H : Heap) (locs : List Loc) (ls : Array Slot), ce_H D ad cA B0 [] s h H locs → lv_has ls 3 [(0, .ref (ad 68)), (1, .int x1)] → Option.bind (ce_it (fun (st : Int32 × Hp) => f12_runs_b24 F  st.1 st.2) n (x1, h)) g = some r → W p l e0 { frames := 2, cells := 0, slots := 0, locals := 52 } s m args below meth c H locs 0 0 (MQ below (ce_Q D ad cA B0 (ce_St aK aV B0) none r) args s 0 0 (fun q => B0 ≤ q)) (F0 m 24 ls []) := by
  intro n
  induction n with
  | zero =>
    intro x1 h H locs ls hH hl e
    exact absurd e (fun z => by cases z)
  | succ n ih =>
    intro x1 h H locs ls hH hl e
    have hx9 := C.1
    have hb := C.2.1
    have e : Option.bind (f12_runs_b24 F  x1 h) _ = some r := ce_it_bd e
    unfold f12_runs_b24 at e
    refine lv_iload_n hx9 hb d12_runs_24 rfl (lv_at hl 1 rfl) ?_
    refine lv_bipush (v := (10 : Int32)) hx9 hb d12_runs_25 (by decide) ?_
    refine lv_icmp_ge (tgt := 71) hx9 hb d12_runs_27 (by decide) (fun hc27 => ?_) (fun hc27 => ?_)
    · have e := ce_if1 e hc27
      exact hx  h _ _ _ hH (lv_sub hl [0] rfl) e
    · have e := ce_if0 e hc27
      refine lv_aload_n hx9 hb d12_runs_30 rfl (lv_at hl 0 rfl) ?_
      refine gf_12_38 C hH d12_runs_31 ?_
      refine lv_iload_n hx9 hb d12_runs_34 rfl (lv_at hl 1 rfl) ?_
      refine lv_iconst (v := (-1 : Int32)) hx9 hb d12_runs_35 (by decide) ?_
      obtain ⟨hi36, e⟩ := ce_gd e
      refine ce_iast C hH lc_77.1 lc_77.2 (ce_in_vp hi36) d12_runs_36 (fun H locs hH => ?_)
      obtain ⟨h_36, eh_36, e⟩ := ce_nmE e
      rw [← eh_36] at hH
      refine lv_aload_n hx9 hb d12_runs_37 rfl (lv_at hl 0 rfl) ?_
      refine gf_12_41 C hH d12_runs_38 ?_
      refine lv_iload_n hx9 hb d12_runs_41 rfl (lv_at hl 1 rfl) ?_
      refine lv_iconst (v := (-1 : Int32)) hx9 hb d12_runs_42 (by decide) ?_
      obtain ⟨hi43, e⟩ := ce_gd e
      refine ce_iast C hH lc_78.1 lc_78.2 (ce_in_vp hi43) d12_runs_43 (fun H locs hH => ?_)
      obtain ⟨h_43, eh_43, e⟩ := ce_nmE e
      rw [← eh_43] at hH
      refine lv_aload_n hx9 hb d12_runs_44 rfl (lv_at hl 0 rfl) ?_
      refine gf_12_44 C hH d12_runs_45 ?_
      refine lv_iload_n hx9 hb d12_runs_48 rfl (lv_at hl 1 rfl) ?_
      refine lv_iconst (v := (-1 : Int32)) hx9 hb d12_runs_49 (by decide) ?_
      obtain ⟨hi50, e⟩ := ce_gd e
      refine ce_iast C hH lc_79.1 lc_79.2 (ce_in_vp hi50) d12_runs_50 (fun H locs hH => ?_)
      obtain ⟨h_50, eh_50, e⟩ := ce_nmE e
      rw [← eh_50] at hH
      refine lv_aload_n hx9 hb d12_runs_51 rfl (lv_at hl 0 rfl) ?_
      refine gf_12_47 C hH d12_runs_52 ?_
      refine lv_iload_n hx9 hb d12_runs_55 rfl (lv_at hl 1 rfl) ?_
      refine lv_iconst (v := (-1 : Int32)) hx9 hb d12_runs_56 (by decide) ?_
      obtain ⟨hi57, e⟩ := ce_gd e
      refine ce_iast C hH lc_80.1 lc_80.2 (ce_in_vp hi57) d12_runs_57 (fun H locs hH => ?_)
      obtain ⟨h_57, eh_57, e⟩ := ce_nmE e
      rw [← eh_57] at hH
      refine lv_aload_n hx9 hb d12_runs_58 rfl (lv_at hl 0 rfl) ?_
      refine gf_12_50 C hH d12_runs_59 ?_
      refine lv_iload_n hx9 hb d12_runs_62 rfl (lv_at hl 1 rfl) ?_
      refine lv_iconst (v := (0 : Int32)) hx9 hb d12_runs_63 (by decide) ?_
      obtain ⟨hi64, e⟩ := ce_gd e
      refine ce_iast C hH lc_81.1 lc_81.2 (ce_in_vp hi64) d12_runs_64 (fun H locs hH => ?_)
      obtain ⟨h_64, eh_64, e⟩ := ce_nmE e
      rw [← eh_64] at hH
      refine lv_iinc (v := x1 + (1 : Int32)) (lv' := [(1, .int (x1 + (1 : Int32))), (0, .ref (ad 68))]) hx9 hb d12_runs_65 hl (k := 1) rfl rfl (by decide) rfl (fun ls hl => ?_)
      refine lv_goto (tgt := 24) hx9 hb d12_runs_68 (by decide) ?_
      exact ih (x1 + (1 : Int32)) h_64 _ _ _ hH (lv_sub hl [1, 0] rfl) e
def f12_runs_b82 (F : Nat) (x1 : Int32) (x2 : Int32) (h : Hp) : Option ((Int32 × Hp) ⊕ (Hp)) :=
  if (h 69 ((2 : Int32)).toNatClampNeg) ≤ x2 then
    some (.inr h)
  else
    if ce_in x2 10 = true then
      if (h 77 (x2).toNatClampNeg) = (-1 : Int32) then
        if ce_in x2 10 = true then
          if (h 80 (x2).toNatClampNeg) = (-1 : Int32) then
            Option.bind (f12_goes F x2 x1 h) (fun o115 =>
              some (.inl (x2 + (1 : Int32), o115)))
          else
            some (.inl (x2 + (1 : Int32), h))
        else none
      else
        some (.inl (x2 + (1 : Int32), h))
    else none
set_option maxRecDepth 20000 in
theorem l12_runs_82 (C : ce_Cx p s m args c meth b12_runs 3 none cn_12 D ad cA B0 (ce_St aK aV B0)) (F : Nat) (x1 : Int32)  (r : Hp) (g : (Hp) → Option (Hp)) (hx : ∀  (h : Hp) (H : Heap) (locs : List Loc) (ls : Array Slot), ce_H D ad cA B0 [] s h H locs → lv_has ls 3 [(0, .ref (ad 68)), (1, .int x1)] → g h = some r → W p l e0 { frames := 2, cells := 0, slots := 0, locals := 52 } s m args below meth c H locs 0 0 (MQ below (ce_Q D ad cA B0 (ce_St aK aV B0) none r) args s 0 0 (fun q => B0 ≤ q)) (F0 m 124 ls [])) : ∀ (n : Nat) (x2 : Int32) (h : Hp) (H : Heap) (locs : List Loc) (ls : Array Slot), ce_H D ad cA B0 [] s h H locs → lv_has ls 3 [(0, .ref (ad 68)), (1, .int x1), (2, .int x2)] → Option.bind (ce_it (fun (st : Int32 × Hp) => f12_runs_b82 F x1 st.1 st.2) n (x2, h)) g = some r → W p l e0 { frames := 2, cells := 0, slots := 0, locals := 52 } s m args below meth c H locs 0 0 (MQ below (ce_Q D ad cA B0 (ce_St aK aV B0) none r) args s 0 0 (fun q => B0 ≤ q)) (F0 m 82 ls []) := by
  intro n
  induction n with
  | zero =>
    intro x2 h H locs ls hH hl e
    exact absurd e (fun z => by cases z)
  | succ n ih =>
    intro x2 h H locs ls hH hl e
    have hx9 := C.1
    have hb := C.2.1
    have e : Option.bind (f12_runs_b82 F x1 x2 h) _ = some r := ce_it_bd e
    unfold f12_runs_b82 at e
    refine lv_iload_n hx9 hb d12_runs_82 rfl (lv_at hl 2 rfl) ?_
    refine lv_aload_n hx9 hb d12_runs_83 rfl (lv_at hl 0 rfl) ?_
    refine gf_12_7 C hH d12_runs_84 ?_
    refine lv_iconst (v := (2 : Int32)) hx9 hb d12_runs_87 (by decide) ?_
    refine ce_iald C hH lc_69.1 lc_69.2 (ce_in_vp (by decide)) d12_runs_88 ?_
    refine lv_icmp_ge (tgt := 124) hx9 hb d12_runs_89 (by decide) (fun hc89 => ?_) (fun hc89 => ?_)
    · have e := ce_if1 e hc89
      exact hx  h _ _ _ hH (lv_sub hl [0, 1] rfl) e
    · have e := ce_if0 e hc89
      refine lv_aload_n hx9 hb d12_runs_92 rfl (lv_at hl 0 rfl) ?_
      refine gf_12_38 C hH d12_runs_93 ?_
      refine lv_iload_n hx9 hb d12_runs_96 rfl (lv_at hl 2 rfl) ?_
      obtain ⟨hi97, e⟩ := ce_gd e
      refine ce_iald C hH lc_77.1 lc_77.2 (ce_in_vp hi97) d12_runs_97 ?_
      refine lv_iconst (v := (-1 : Int32)) hx9 hb d12_runs_98 (by decide) ?_
      refine lv_icmp_ne (tgt := 118) hx9 hb d12_runs_99 (by decide) (fun hc99 => ?_) (fun hc99 => ?_)
      · have e := ce_if0 e hc99
        refine lv_iinc (v := x2 + (1 : Int32)) (lv' := [(2, .int (x2 + (1 : Int32))), (0, .ref (ad 68)), (1, .int x1)]) hx9 hb d12_runs_118 hl (k := 2) rfl rfl (by decide) rfl (fun ls hl => ?_)
        refine lv_goto (tgt := 82) hx9 hb d12_runs_121 (by decide) ?_
        exact ih (x2 + (1 : Int32)) h _ _ _ hH (lv_sub hl [1, 2, 0] rfl) e
      · have e := ce_if1 e hc99
        refine lv_aload_n hx9 hb d12_runs_102 rfl (lv_at hl 0 rfl) ?_
        refine gf_12_47 C hH d12_runs_103 ?_
        refine lv_iload_n hx9 hb d12_runs_106 rfl (lv_at hl 2 rfl) ?_
        obtain ⟨hi107, e⟩ := ce_gd e
        refine ce_iald C hH lc_80.1 lc_80.2 (ce_in_vp hi107) d12_runs_107 ?_
        refine lv_iconst (v := (-1 : Int32)) hx9 hb d12_runs_108 (by decide) ?_
        refine lv_icmp_ne (tgt := 118) hx9 hb d12_runs_109 (by decide) (fun hc109 => ?_) (fun hc109 => ?_)
        · have e := ce_if0 e hc109
          refine lv_iinc (v := x2 + (1 : Int32)) (lv' := [(2, .int (x2 + (1 : Int32))), (0, .ref (ad 68)), (1, .int x1)]) hx9 hb d12_runs_118 hl (k := 2) rfl rfl (by decide) rfl (fun ls hl => ?_)
          refine lv_goto (tgt := 82) hx9 hb d12_runs_121 (by decide) ?_
          exact ih (x2 + (1 : Int32)) h _ _ _ hH (lv_sub hl [1, 2, 0] rfl) e
        · have e := ce_if1 e hc109
          refine lv_aload_n hx9 hb d12_runs_112 rfl (lv_at hl 0 rfl) ?_
          refine lv_iload_n hx9 hb d12_runs_113 rfl (lv_at hl 2 rfl) ?_
          refine lv_iload_n hx9 hb d12_runs_114 rfl (lv_at hl 1 rfl) ?_
          obtain ⟨o115, eo115, e⟩ := ce_bd e
          refine ce_callV (As := [.int x2, .int x1]) (rest := []) C (ce_sok aK aV B0) hH (c12_goes l D ad cA aK aV B0 C.2.2.2.2.2.2.1 F x2 x1  h o115 eo115) lo_68.1 lo_68.2.choose_spec rfl rfl mc12_goes ml_12_246 mi12_goes ms12_goes mI_12 (n := 2) (by decide) rfl ⟨Nat.le_of_ble_eq_true rfl, Nat.le_of_ble_eq_true rfl⟩ ⟨Nat.le_of_ble_eq_true rfl, Nat.le_of_ble_eq_true rfl⟩ hl.1 rfl (Nat.le_of_ble_eq_true rfl) d12_runs_115 (fun H locs hH => ?_)
          refine W.eq (g2 := F0 m 118 ls []) rfl ?_
          refine lv_iinc (v := x2 + (1 : Int32)) (lv' := [(2, .int (x2 + (1 : Int32))), (0, .ref (ad 68)), (1, .int x1)]) hx9 hb d12_runs_118 hl (k := 2) rfl rfl (by decide) rfl (fun ls hl => ?_)
          refine lv_goto (tgt := 82) hx9 hb d12_runs_121 (by decide) ?_
          exact ih (x2 + (1 : Int32)) o115 _ _ _ hH (lv_sub hl [1, 2, 0] rfl) e
def f12_runs_b73 (F : Nat) (x1 : Int32) (h : Hp) : Option ((Int32 × Hp) ⊕ (Hp)) :=
  if (700 : Int32) ≤ x1 then
    some (.inr h)
  else
    Option.bind (ce_it (fun (st : Int32 × Hp) => f12_runs_b82 F x1 st.1 st.2) F ((0 : Int32), h)) (fun o82 =>
      some (.inl (x1 + (1 : Int32), o82)))
set_option maxRecDepth 20000 in
theorem l12_runs_73 (C : ce_Cx p s m args c meth b12_runs 3 none cn_12 D ad cA B0 (ce_St aK aV B0)) (F : Nat)   (r : Hp) (g : (Hp) → Option (Hp)) (hx : ∀  (h : Hp) (H : Heap) (locs : List Loc) (ls : Array Slot), ce_H D ad cA B0 [] s h H locs → lv_has ls 3 [(0, .ref (ad 68))] → g h = some r → W p l e0 { frames := 2, cells := 0, slots := 0, locals := 52 } s m args below meth c H locs 0 0 (MQ below (ce_Q D ad cA B0 (ce_St aK aV B0) none r) args s 0 0 (fun q => B0 ≤ q)) (F0 m 130 ls [])) : ∀ (n : Nat) (x1 : Int32) (h : Hp) (H : Heap) (locs : List Loc) (ls : Array Slot), ce_H D ad cA B0 [] s h H locs → lv_has ls 3 [(0, .ref (ad 68)), (1, .int x1)] → Option.bind (ce_it (fun (st : Int32 × Hp) => f12_runs_b73 F  st.1 st.2) n (x1, h)) g = some r → W p l e0 { frames := 2, cells := 0, slots := 0, locals := 52 } s m args below meth c H locs 0 0 (MQ below (ce_Q D ad cA B0 (ce_St aK aV B0) none r) args s 0 0 (fun q => B0 ≤ q)) (F0 m 73 ls []) := by
  intro n
  induction n with
  | zero =>
    intro x1 h H locs ls hH hl e
    exact absurd e (fun z => by cases z)
  | succ n ih =>
    intro x1 h H locs ls hH hl e
    have hx9 := C.1
    have hb := C.2.1
    have e : Option.bind (f12_runs_b73 F  x1 h) _ = some r := ce_it_bd e
    unfold f12_runs_b73 at e
    refine lv_iload_n hx9 hb d12_runs_73 rfl (lv_at hl 1 rfl) ?_
    refine lv_sipush (v := (700 : Int32)) hx9 hb d12_runs_74 (by decide) ?_
    refine lv_icmp_ge (tgt := 130) hx9 hb d12_runs_77 (by decide) (fun hc77 => ?_) (fun hc77 => ?_)
    · have e := ce_if1 e hc77
      exact hx  h _ _ _ hH (lv_sub hl [0] rfl) e
    · have e := ce_if0 e hc77
      refine lv_iconst (v := (0 : Int32)) hx9 hb d12_runs_80 (by decide) ?_
      refine lv_istore_n (lv' := [(2, .int (0 : Int32)), (0, .ref (ad 68)), (1, .int x1)]) hx9 hb d12_runs_81 rfl hl (by decide) rfl (fun ls hl => ?_)
      refine l12_runs_82 C F x1  r _ (fun  h_82 H locs ls hH hl e => ?_) F (0 : Int32) h _ _ _ hH (lv_sub hl [1, 2, 0] rfl) (ce_as e)
      try dsimp only at e
      refine lv_iinc (v := x1 + (1 : Int32)) (lv' := [(1, .int (x1 + (1 : Int32))), (0, .ref (ad 68))]) hx9 hb d12_runs_124 hl (k := 1) rfl rfl (by decide) rfl (fun ls hl => ?_)
      refine lv_goto (tgt := 73) hx9 hb d12_runs_127 (by decide) ?_
      exact ih (x1 + (1 : Int32)) h_82 _ _ _ hH (lv_sub hl [1, 0] rfl) e
def f12_runs_b132 (F : Nat) (x1 : Int32) (h : Hp) : Option ((Int32 × Hp) ⊕ (Hp)) :=
  if (h 69 ((2 : Int32)).toNatClampNeg) ≤ x1 then
    some (.inr h)
  else
    Option.bind (f12_meets F x1 h) (fun o144 =>
      some (.inl (x1 + (1 : Int32), o144)))
set_option maxRecDepth 20000 in
theorem l12_runs_132 (C : ce_Cx p s m args c meth b12_runs 3 none cn_12 D ad cA B0 (ce_St aK aV B0)) (F : Nat)   (r : Hp) (g : (Hp) → Option (Hp)) (hx : ∀  (h : Hp) (H : Heap) (locs : List Loc) (ls : Array Slot), ce_H D ad cA B0 [] s h H locs → lv_has ls 3 [(0, .ref (ad 68))] → g h = some r → W p l e0 { frames := 2, cells := 0, slots := 0, locals := 52 } s m args below meth c H locs 0 0 (MQ below (ce_Q D ad cA B0 (ce_St aK aV B0) none r) args s 0 0 (fun q => B0 ≤ q)) (F0 m 153 ls [])) : ∀ (n : Nat) (x1 : Int32) (h : Hp) (H : Heap) (locs : List Loc) (ls : Array Slot), ce_H D ad cA B0 [] s h H locs → lv_has ls 3 [(0, .ref (ad 68)), (1, .int x1)] → Option.bind (ce_it (fun (st : Int32 × Hp) => f12_runs_b132 F  st.1 st.2) n (x1, h)) g = some r → W p l e0 { frames := 2, cells := 0, slots := 0, locals := 52 } s m args below meth c H locs 0 0 (MQ below (ce_Q D ad cA B0 (ce_St aK aV B0) none r) args s 0 0 (fun q => B0 ≤ q)) (F0 m 132 ls []) := by
  intro n
  induction n with
  | zero =>
    intro x1 h H locs ls hH hl e
    exact absurd e (fun z => by cases z)
  | succ n ih =>
    intro x1 h H locs ls hH hl e
    have hx9 := C.1
    have hb := C.2.1
    have e : Option.bind (f12_runs_b132 F  x1 h) _ = some r := ce_it_bd e
    unfold f12_runs_b132 at e
    refine lv_iload_n hx9 hb d12_runs_132 rfl (lv_at hl 1 rfl) ?_
    refine lv_aload_n hx9 hb d12_runs_133 rfl (lv_at hl 0 rfl) ?_
    refine gf_12_7 C hH d12_runs_134 ?_
    refine lv_iconst (v := (2 : Int32)) hx9 hb d12_runs_137 (by decide) ?_
    refine ce_iald C hH lc_69.1 lc_69.2 (ce_in_vp (by decide)) d12_runs_138 ?_
    refine lv_icmp_ge (tgt := 153) hx9 hb d12_runs_139 (by decide) (fun hc139 => ?_) (fun hc139 => ?_)
    · have e := ce_if1 e hc139
      exact hx  h _ _ _ hH (lv_sub hl [0] rfl) e
    · have e := ce_if0 e hc139
      refine lv_aload_n hx9 hb d12_runs_142 rfl (lv_at hl 0 rfl) ?_
      refine lv_iload_n hx9 hb d12_runs_143 rfl (lv_at hl 1 rfl) ?_
      obtain ⟨o144, eo144, e⟩ := ce_bd e
      refine ce_callV (As := [.int x1]) (rest := []) C (ce_sok aK aV B0) hH (c12_meets l D ad cA aK aV B0 C.2.2.2.2.2.2.1 F x1  h o144 eo144) lo_68.1 lo_68.2.choose_spec rfl rfl mc12_meets ml_12_250 mi12_meets ms12_meets mI_12 (n := 1) (by decide) rfl ⟨Nat.le_of_ble_eq_true rfl, Nat.le_of_ble_eq_true rfl⟩ ⟨Nat.le_of_ble_eq_true rfl, Nat.le_of_ble_eq_true rfl⟩ hl.1 rfl (Nat.le_of_ble_eq_true rfl) d12_runs_144 (fun H locs hH => ?_)
      refine W.eq (g2 := F0 m 147 ls []) rfl ?_
      refine lv_iinc (v := x1 + (1 : Int32)) (lv' := [(1, .int (x1 + (1 : Int32))), (0, .ref (ad 68))]) hx9 hb d12_runs_147 hl (k := 1) rfl rfl (by decide) rfl (fun ls hl => ?_)
      refine lv_goto (tgt := 132) hx9 hb d12_runs_150 (by decide) ?_
      exact ih (x1 + (1 : Int32)) o144 _ _ _ hH (lv_sub hl [1, 0] rfl) e
def f12_runs_b155 (F : Nat) (x1 : Int32) (h : Hp) : Option ((Int32 × Hp) ⊕ (Hp)) :=
  if (h 69 ((2 : Int32)).toNatClampNeg) ≤ x1 then
    some (.inr h)
  else
    if ce_in x1 10 = true then
      if (h 80 (x1).toNatClampNeg) = (-1 : Int32) then
        if ce_in x1 10 = true then
          if ce_in x1 10 = true then
            ce_nm (hp_up h 82 (x1).toNatClampNeg (h 78 (x1).toNatClampNeg)) (fun h_190 =>
              some (.inl (x1 + (1 : Int32), h_190)))
          else none
        else none
      else
        if ce_in x1 10 = true then
          ce_nm (hp_up h 82 (x1).toNatClampNeg (-1 : Int32)) (fun h_190 =>
            some (.inl (x1 + (1 : Int32), h_190)))
        else none
    else none
set_option maxRecDepth 20000 in
theorem l12_runs_155 (C : ce_Cx p s m args c meth b12_runs 3 none cn_12 D ad cA B0 (ce_St aK aV B0)) (F : Nat)   (r : Hp) (g : (Hp) → Option (Hp)) (hx : ∀  (h : Hp) (H : Heap) (locs : List Loc) (ls : Array Slot), ce_H D ad cA B0 [] s h H locs → lv_has ls 3 [] → g h = some r → W p l e0 { frames := 2, cells := 0, slots := 0, locals := 52 } s m args below meth c H locs 0 0 (MQ below (ce_Q D ad cA B0 (ce_St aK aV B0) none r) args s 0 0 (fun q => B0 ≤ q)) (F0 m 197 ls [])) : ∀ (n : Nat) (x1 : Int32) (h : Hp) (H : Heap) (locs : List Loc) (ls : Array Slot), ce_H D ad cA B0 [] s h H locs → lv_has ls 3 [(0, .ref (ad 68)), (1, .int x1)] → Option.bind (ce_it (fun (st : Int32 × Hp) => f12_runs_b155 F  st.1 st.2) n (x1, h)) g = some r → W p l e0 { frames := 2, cells := 0, slots := 0, locals := 52 } s m args below meth c H locs 0 0 (MQ below (ce_Q D ad cA B0 (ce_St aK aV B0) none r) args s 0 0 (fun q => B0 ≤ q)) (F0 m 155 ls []) := by
  intro n
  induction n with
  | zero =>
    intro x1 h H locs ls hH hl e
    exact absurd e (fun z => by cases z)
  | succ n ih =>
    intro x1 h H locs ls hH hl e
    have hx9 := C.1
    have hb := C.2.1
    have e : Option.bind (f12_runs_b155 F  x1 h) _ = some r := ce_it_bd e
    unfold f12_runs_b155 at e
    refine lv_iload_n hx9 hb d12_runs_155 rfl (lv_at hl 1 rfl) ?_
    refine lv_aload_n hx9 hb d12_runs_156 rfl (lv_at hl 0 rfl) ?_
    refine gf_12_7 C hH d12_runs_157 ?_
    refine lv_iconst (v := (2 : Int32)) hx9 hb d12_runs_160 (by decide) ?_
    refine ce_iald C hH lc_69.1 lc_69.2 (ce_in_vp (by decide)) d12_runs_161 ?_
    refine lv_icmp_ge (tgt := 197) hx9 hb d12_runs_162 (by decide) (fun hc162 => ?_) (fun hc162 => ?_)
    · have e := ce_if1 e hc162
      exact hx  h _ _ _ hH (lv_sub hl [] rfl) e
    · have e := ce_if0 e hc162
      refine lv_aload_n hx9 hb d12_runs_165 rfl (lv_at hl 0 rfl) ?_
      refine gf_12_53 C hH d12_runs_166 ?_
      refine lv_iload_n hx9 hb d12_runs_169 rfl (lv_at hl 1 rfl) ?_
      refine lv_aload_n hx9 hb d12_runs_170 rfl (lv_at hl 0 rfl) ?_
      refine gf_12_47 C hH d12_runs_171 ?_
      refine lv_iload_n hx9 hb d12_runs_174 rfl (lv_at hl 1 rfl) ?_
      obtain ⟨hi175, e⟩ := ce_gd e
      refine ce_iald C hH lc_80.1 lc_80.2 (ce_in_vp hi175) d12_runs_175 ?_
      refine lv_iconst (v := (-1 : Int32)) hx9 hb d12_runs_176 (by decide) ?_
      refine lv_icmp_ne (tgt := 189) hx9 hb d12_runs_177 (by decide) (fun hc177 => ?_) (fun hc177 => ?_)
      · have e := ce_if0 e hc177
        refine lv_iconst (v := (-1 : Int32)) hx9 hb d12_runs_189 (by decide) ?_
        obtain ⟨hi190, e⟩ := ce_gd e
        refine ce_iast C hH lc_82.1 lc_82.2 (ce_in_vp hi190) d12_runs_190 (fun H locs hH => ?_)
        obtain ⟨h_190, eh_190, e⟩ := ce_nmE e
        rw [← eh_190] at hH
        refine lv_iinc (v := x1 + (1 : Int32)) (lv' := [(1, .int (x1 + (1 : Int32))), (0, .ref (ad 68))]) hx9 hb d12_runs_191 hl (k := 1) rfl rfl (by decide) rfl (fun ls hl => ?_)
        refine lv_goto (tgt := 155) hx9 hb d12_runs_194 (by decide) ?_
        exact ih (x1 + (1 : Int32)) h_190 _ _ _ hH (lv_sub hl [1, 0] rfl) e
      · have e := ce_if1 e hc177
        refine lv_aload_n hx9 hb d12_runs_180 rfl (lv_at hl 0 rfl) ?_
        refine gf_12_41 C hH d12_runs_181 ?_
        refine lv_iload_n hx9 hb d12_runs_184 rfl (lv_at hl 1 rfl) ?_
        obtain ⟨hi185, e⟩ := ce_gd e
        refine ce_iald C hH lc_78.1 lc_78.2 (ce_in_vp hi185) d12_runs_185 ?_
        refine lv_goto (tgt := 190) hx9 hb d12_runs_186 (by decide) ?_
        obtain ⟨hi190, e⟩ := ce_gd e
        refine ce_iast C hH lc_82.1 lc_82.2 (ce_in_vp hi190) d12_runs_190 (fun H locs hH => ?_)
        obtain ⟨h_190, eh_190, e⟩ := ce_nmE e
        rw [← eh_190] at hH
        refine lv_iinc (v := x1 + (1 : Int32)) (lv' := [(1, .int (x1 + (1 : Int32))), (0, .ref (ad 68))]) hx9 hb d12_runs_191 hl (k := 1) rfl rfl (by decide) rfl (fun ls hl => ?_)
        refine lv_goto (tgt := 155) hx9 hb d12_runs_194 (by decide) ?_
        exact ih (x1 + (1 : Int32)) h_190 _ _ _ hH (lv_sub hl [1, 0] rfl) e
def f12_runs (F : Nat)  (h : Hp) : Option (Hp) :=
  Option.bind (ce_it (fun (st : Int32 × Hp) => f12_runs_b2 F  st.1 st.2) F ((0 : Int32), h)) (fun o2 =>
    Option.bind (ce_it (fun (st : Int32 × Hp) => f12_runs_b24 F  st.1 st.2) F ((0 : Int32), o2)) (fun o24 =>
      Option.bind (ce_it (fun (st : Int32 × Hp) => f12_runs_b73 F  st.1 st.2) F ((0 : Int32), o24)) (fun o73 =>
        Option.bind (ce_it (fun (st : Int32 × Hp) => f12_runs_b132 F  st.1 st.2) F ((0 : Int32), o73)) (fun o132 =>
          Option.bind (ce_it (fun (st : Int32 × Hp) => f12_runs_b155 F  st.1 st.2) F ((0 : Int32), o132)) (fun o155 =>
            some o155)))))
set_option maxRecDepth 20000 in
theorem c12_runs (l : Launch) (D : va_G) (ad : Nat → Nat) (cA : Nat → ClassId) (aK aV : Nat → Nat) (B0 : Nat) (hA : ce_Ad ad B0) (F : Nat)   (h : Hp) (r : Hp) (e : f12_runs F  h = some r) : ce_Ct l D ad cA B0 (ce_St aK aV B0) y12_runs b12_runs 3 none 2 52 0 0 [.ref (ad 68)] h none r := by
  refine ce_enter hA (by decide) rfl (Nat.le_of_ble_eq_true rfl) (fun p e0 s m below meth c ls C hH hl => ?_)
  have hl : lv_has ls 3 [(0, .ref (ad 68))] := hl
  have hx := C.1
  have hb := C.2.1
  have e : Option.bind _ some = some r := (congrArg (fun z => Option.bind z some) e).trans rfl
  unfold f12_runs at e
  refine lv_iconst (v := (0 : Int32)) hx hb d12_runs_0 (by decide) ?_
  refine lv_istore_n (lv' := [(1, .int (0 : Int32)), (0, .ref (ad 68))]) hx hb d12_runs_1 rfl hl (by decide) rfl (fun ls hl => ?_)
  refine l12_runs_2 C F   r _ (fun  h_2 H locs ls hH hl e => ?_) F (0 : Int32) h _ _ _ hH (lv_sub hl [1, 0] rfl) (ce_as e)
  try dsimp only at e
  refine lv_iconst (v := (0 : Int32)) hx hb d12_runs_22 (by decide) ?_
  refine lv_istore_n (lv' := [(1, .int (0 : Int32)), (0, .ref (ad 68))]) hx hb d12_runs_23 rfl hl (by decide) rfl (fun ls hl => ?_)
  refine l12_runs_24 C F   r _ (fun  h_24 H locs ls hH hl e => ?_) F (0 : Int32) h_2 _ _ _ hH (lv_sub hl [1, 0] rfl) (ce_as e)
  try dsimp only at e
  refine lv_iconst (v := (0 : Int32)) hx hb d12_runs_71 (by decide) ?_
  refine lv_istore_n (lv' := [(1, .int (0 : Int32)), (0, .ref (ad 68))]) hx hb d12_runs_72 rfl hl (by decide) rfl (fun ls hl => ?_)
  refine l12_runs_73 C F   r _ (fun  h_73 H locs ls hH hl e => ?_) F (0 : Int32) h_24 _ _ _ hH (lv_sub hl [1, 0] rfl) (ce_as e)
  try dsimp only at e
  refine lv_iconst (v := (0 : Int32)) hx hb d12_runs_130 (by decide) ?_
  refine lv_istore_n (lv' := [(1, .int (0 : Int32)), (0, .ref (ad 68))]) hx hb d12_runs_131 rfl hl (by decide) rfl (fun ls hl => ?_)
  refine l12_runs_132 C F   r _ (fun  h_132 H locs ls hH hl e => ?_) F (0 : Int32) h_73 _ _ _ hH (lv_sub hl [1, 0] rfl) (ce_as e)
  try dsimp only at e
  refine lv_iconst (v := (0 : Int32)) hx hb d12_runs_153 (by decide) ?_
  refine lv_istore_n (lv' := [(1, .int (0 : Int32)), (0, .ref (ad 68))]) hx hb d12_runs_154 rfl hl (by decide) rfl (fun ls hl => ?_)
  refine l12_runs_155 C F   r _ (fun  h_155 H locs ls hH hl e => ?_) F (0 : Int32) h_132 _ _ _ hH (lv_sub hl [1, 0] rfl) (ce_as e)
  try dsimp only at e
  exact ce_vret C (ce_sok aK aV B0) hH (Option.some.inj e) d12_runs_197
abbrev b12_rootOf : ByteArray := prog_14_method_41_code
def y12_rootOf : MethodName := ⟨cn_12, "rootOf", "(I)I"⟩
theorem d12_rootOf_0 : decode b12_rootOf 0 = .ok (.aload_n 0, 1) := by decide +kernel
theorem d12_rootOf_1 : decode b12_rootOf 1 = .ok (.invokevirtual 227, 3) := by decide +kernel
theorem d12_rootOf_4 : decode b12_rootOf 4 = .ok (.iconst 0, 1) := by decide +kernel
theorem d12_rootOf_5 : decode b12_rootOf 5 = .ok (.istore_n 2, 1) := by decide +kernel
theorem d12_rootOf_6 : decode b12_rootOf 6 = .ok (.iload_n 2, 1) := by decide +kernel
theorem d12_rootOf_7 : decode b12_rootOf 7 = .ok (.aload_n 0, 1) := by decide +kernel
theorem d12_rootOf_8 : decode b12_rootOf 8 = .ok (.getfield 7, 3) := by decide +kernel
theorem d12_rootOf_11 : decode b12_rootOf 11 = .ok (.iconst 2, 1) := by decide +kernel
theorem d12_rootOf_12 : decode b12_rootOf 12 = .ok (.iaload, 1) := by decide +kernel
theorem d12_rootOf_13 : decode b12_rootOf 13 = .ok (.if_icmp .ge 36, 3) := by decide +kernel
theorem d12_rootOf_16 : decode b12_rootOf 16 = .ok (.aload_n 0, 1) := by decide +kernel
theorem d12_rootOf_17 : decode b12_rootOf 17 = .ok (.getfield 32, 3) := by decide +kernel
theorem d12_rootOf_20 : decode b12_rootOf 20 = .ok (.iload_n 2, 1) := by decide +kernel
theorem d12_rootOf_21 : decode b12_rootOf 21 = .ok (.iaload, 1) := by decide +kernel
theorem d12_rootOf_22 : decode b12_rootOf 22 = .ok (.aload_n 0, 1) := by decide +kernel
theorem d12_rootOf_23 : decode b12_rootOf 23 = .ok (.getfield 32, 3) := by decide +kernel
theorem d12_rootOf_26 : decode b12_rootOf 26 = .ok (.iload_n 1, 1) := by decide +kernel
theorem d12_rootOf_27 : decode b12_rootOf 27 = .ok (.iaload, 1) := by decide +kernel
theorem d12_rootOf_28 : decode b12_rootOf 28 = .ok (.if_icmp .ne 15, 3) := by decide +kernel
theorem d12_rootOf_31 : decode b12_rootOf 31 = .ok (.aload_n 0, 1) := by decide +kernel
theorem d12_rootOf_32 : decode b12_rootOf 32 = .ok (.getfield 47, 3) := by decide +kernel
theorem d12_rootOf_35 : decode b12_rootOf 35 = .ok (.iload_n 2, 1) := by decide +kernel
theorem d12_rootOf_36 : decode b12_rootOf 36 = .ok (.iaload, 1) := by decide +kernel
theorem d12_rootOf_37 : decode b12_rootOf 37 = .ok (.iconst (-1), 1) := by decide +kernel
theorem d12_rootOf_38 : decode b12_rootOf 38 = .ok (.if_icmp .eq 5, 3) := by decide +kernel
theorem d12_rootOf_41 : decode b12_rootOf 41 = .ok (.iload_n 2, 1) := by decide +kernel
theorem d12_rootOf_42 : decode b12_rootOf 42 = .ok (.ireturn, 1) := by decide +kernel
theorem d12_rootOf_43 : decode b12_rootOf 43 = .ok (.iinc 2 1, 3) := by decide +kernel
theorem d12_rootOf_46 : decode b12_rootOf 46 = .ok (.goto (-40), 3) := by decide +kernel
theorem d12_rootOf_49 : decode b12_rootOf 49 = .ok (.iconst (-1), 1) := by decide +kernel
theorem d12_rootOf_50 : decode b12_rootOf 50 = .ok (.ireturn, 1) := by decide +kernel
def f12_rootOf_b6 (F : Nat) (x1 : Int32) (x2 : Int32) (h : Hp) : Option ((Int32 × Hp) ⊕ ((Int32 × Hp) ⊕ (Hp))) :=
  if (h 69 ((2 : Int32)).toNatClampNeg) ≤ x2 then
    some (.inr (.inr h))
  else
    if ce_in x2 10 = true then
      if ce_in x1 10 = true then
        if (h 75 (x2).toNatClampNeg) = (h 75 (x1).toNatClampNeg) then
          if ce_in x2 10 = true then
            if (h 80 (x2).toNatClampNeg) = (-1 : Int32) then
              some (.inl (x2 + (1 : Int32), h))
            else
              some (.inr (.inl (x2, h)))
          else none
        else
          some (.inl (x2 + (1 : Int32), h))
      else none
    else none
set_option maxRecDepth 20000 in
theorem l12_rootOf_6 (C : ce_Cx p s m args c meth b12_rootOf 3 (some .int) cn_12 D ad cA B0 (ce_St aK aV B0)) (F : Nat) (x1 : Int32)  (r : Int32 × Hp) (g : ((Int32 × Hp) ⊕ (Hp)) → Option (Int32 × Hp)) (hx : ∀  (h : Hp) (H : Heap) (locs : List Loc) (ls : Array Slot), ce_H D ad cA B0 [] s h H locs → lv_has ls 3 [] → g (.inr h) = some r → W p l e0 { frames := 2, cells := 0, slots := 0, locals := 44 } s m args below meth c H locs 0 0 (MQ below (ce_Q D ad cA B0 (ce_St aK aV B0) (some (.int r.1)) r.2) args s 0 0 (fun q => B0 ≤ q)) (F0 m 49 ls [])) (he : ∀ z, g (.inl z) = some z) : ∀ (n : Nat) (x2 : Int32) (h : Hp) (H : Heap) (locs : List Loc) (ls : Array Slot), ce_H D ad cA B0 [] s h H locs → lv_has ls 3 [(0, .ref (ad 68)), (1, .int x1), (2, .int x2)] → Option.bind (ce_it (fun (st : Int32 × Hp) => f12_rootOf_b6 F x1 st.1 st.2) n (x2, h)) g = some r → W p l e0 { frames := 2, cells := 0, slots := 0, locals := 44 } s m args below meth c H locs 0 0 (MQ below (ce_Q D ad cA B0 (ce_St aK aV B0) (some (.int r.1)) r.2) args s 0 0 (fun q => B0 ≤ q)) (F0 m 6 ls []) := by
  intro n
  induction n with
  | zero =>
    intro x2 h H locs ls hH hl e
    exact absurd e (fun z => by cases z)
  | succ n ih =>
    intro x2 h H locs ls hH hl e
    have hx9 := C.1
    have hb := C.2.1
    have e : Option.bind (f12_rootOf_b6 F x1 x2 h) _ = some r := ce_it_bd e
    unfold f12_rootOf_b6 at e
    refine lv_iload_n hx9 hb d12_rootOf_6 rfl (lv_at hl 2 rfl) ?_
    refine lv_aload_n hx9 hb d12_rootOf_7 rfl (lv_at hl 0 rfl) ?_
    refine gf_12_7 C hH d12_rootOf_8 ?_
    refine lv_iconst (v := (2 : Int32)) hx9 hb d12_rootOf_11 (by decide) ?_
    refine ce_iald C hH lc_69.1 lc_69.2 (ce_in_vp (by decide)) d12_rootOf_12 ?_
    refine lv_icmp_ge (tgt := 49) hx9 hb d12_rootOf_13 (by decide) (fun hc13 => ?_) (fun hc13 => ?_)
    · have e := ce_if1 e hc13
      exact hx  h _ _ _ hH (lv_sub hl [] rfl) e
    · have e := ce_if0 e hc13
      refine lv_aload_n hx9 hb d12_rootOf_16 rfl (lv_at hl 0 rfl) ?_
      refine gf_12_32 C hH d12_rootOf_17 ?_
      refine lv_iload_n hx9 hb d12_rootOf_20 rfl (lv_at hl 2 rfl) ?_
      obtain ⟨hi21, e⟩ := ce_gd e
      refine ce_iald C hH lc_75.1 lc_75.2 (ce_in_vp hi21) d12_rootOf_21 ?_
      refine lv_aload_n hx9 hb d12_rootOf_22 rfl (lv_at hl 0 rfl) ?_
      refine gf_12_32 C hH d12_rootOf_23 ?_
      refine lv_iload_n hx9 hb d12_rootOf_26 rfl (lv_at hl 1 rfl) ?_
      obtain ⟨hi27, e⟩ := ce_gd e
      refine ce_iald C hH lc_75.1 lc_75.2 (ce_in_vp hi27) d12_rootOf_27 ?_
      refine lv_icmp_ne (tgt := 43) hx9 hb d12_rootOf_28 (by decide) (fun hc28 => ?_) (fun hc28 => ?_)
      · have e := ce_if0 e hc28
        refine lv_iinc (v := x2 + (1 : Int32)) (lv' := [(2, .int (x2 + (1 : Int32))), (0, .ref (ad 68)), (1, .int x1)]) hx9 hb d12_rootOf_43 hl (k := 2) rfl rfl (by decide) rfl (fun ls hl => ?_)
        refine lv_goto (tgt := 6) hx9 hb d12_rootOf_46 (by decide) ?_
        exact ih (x2 + (1 : Int32)) h _ _ _ hH (lv_sub hl [1, 2, 0] rfl) e
      · have e := ce_if1 e hc28
        refine lv_aload_n hx9 hb d12_rootOf_31 rfl (lv_at hl 0 rfl) ?_
        refine gf_12_47 C hH d12_rootOf_32 ?_
        refine lv_iload_n hx9 hb d12_rootOf_35 rfl (lv_at hl 2 rfl) ?_
        obtain ⟨hi36, e⟩ := ce_gd e
        refine ce_iald C hH lc_80.1 lc_80.2 (ce_in_vp hi36) d12_rootOf_36 ?_
        refine lv_iconst (v := (-1 : Int32)) hx9 hb d12_rootOf_37 (by decide) ?_
        refine lv_icmp_eq (tgt := 43) hx9 hb d12_rootOf_38 (by decide) (fun hc38 => ?_) (fun hc38 => ?_)
        · have e := ce_if1 e hc38
          refine lv_iinc (v := x2 + (1 : Int32)) (lv' := [(2, .int (x2 + (1 : Int32))), (0, .ref (ad 68)), (1, .int x1)]) hx9 hb d12_rootOf_43 hl (k := 2) rfl rfl (by decide) rfl (fun ls hl => ?_)
          refine lv_goto (tgt := 6) hx9 hb d12_rootOf_46 (by decide) ?_
          exact ih (x2 + (1 : Int32)) h _ _ _ hH (lv_sub hl [1, 2, 0] rfl) e
        · have e := ce_if0 e hc38
          refine lv_iload_n hx9 hb d12_rootOf_41 rfl (lv_at hl 2 rfl) ?_
          have e := (he _).symm.trans e
          exact ce_iretE C (ce_sok aK aV B0) hH e d12_rootOf_42
def f12_rootOf (F : Nat) (x1 : Int32) (h : Hp) : Option (Int32 × Hp) :=
  Option.bind (f12_laysBuses F  h) (fun o1 =>
    Option.bind (ce_it (fun (st : Int32 × Hp) => f12_rootOf_b6 F x1 st.1 st.2) F ((0 : Int32), o1)) (fun o6w => match o6w with
      | .inl z => some z
      | .inr o6 =>
        some ((-1 : Int32), o6)))
set_option maxRecDepth 20000 in
theorem c12_rootOf (l : Launch) (D : va_G) (ad : Nat → Nat) (cA : Nat → ClassId) (aK aV : Nat → Nat) (B0 : Nat) (hA : ce_Ad ad B0) (F : Nat) (x1 : Int32)  (h : Hp) (r : Int32 × Hp) (e : f12_rootOf F x1 h = some r) : ce_Ct l D ad cA B0 (ce_St aK aV B0) y12_rootOf b12_rootOf 3 (some .int) 2 44 0 0 [.ref (ad 68), .int x1] h (some (.int r.1)) r.2 := by
  refine ce_enter hA (by decide) rfl (Nat.le_of_ble_eq_true rfl) (fun p e0 s m below meth c ls C hH hl => ?_)
  have hl : lv_has ls 3 [(0, .ref (ad 68)), (1, .int x1)] := hl
  have hx := C.1
  have hb := C.2.1
  have e : Option.bind _ some = some r := (congrArg (fun z => Option.bind z some) e).trans rfl
  unfold f12_rootOf at e
  refine lv_aload_n hx hb d12_rootOf_0 rfl (lv_at hl 0 rfl) ?_
  obtain ⟨o1, eo1, e⟩ := ce_bd e
  refine ce_callV (As := []) (rest := []) C (ce_sok aK aV B0) hH (c12_laysBuses l D ad cA aK aV B0 C.2.2.2.2.2.2.1 F   h o1 eo1) lo_68.1 lo_68.2.choose_spec rfl rfl mc12_laysBuses ml_12_227 mi12_laysBuses ms12_laysBuses mI_12 (n := 0) (by decide) rfl ⟨Nat.le_of_ble_eq_true rfl, Nat.le_of_ble_eq_true rfl⟩ ⟨Nat.le_of_ble_eq_true rfl, Nat.le_of_ble_eq_true rfl⟩ hl.1 rfl (Nat.le_of_ble_eq_true rfl) d12_rootOf_1 (fun H locs hH => ?_)
  refine W.eq (g2 := F0 m 4 ls []) rfl ?_
  refine lv_iconst (v := (0 : Int32)) hx hb d12_rootOf_4 (by decide) ?_
  refine lv_istore_n (lv' := [(2, .int (0 : Int32)), (0, .ref (ad 68)), (1, .int x1)]) hx hb d12_rootOf_5 rfl hl (by decide) rfl (fun ls hl => ?_)
  refine l12_rootOf_6 C F x1  r _ (fun  h_6 H locs ls hH hl e => ?_) (fun z => rfl) F (0 : Int32) o1 _ _ _ hH (lv_sub hl [1, 2, 0] rfl) (ce_as e)
  try dsimp only at e
  refine lv_iconst (v := (-1 : Int32)) hx hb d12_rootOf_49 (by decide) ?_
  exact ce_iretE C (ce_sok aK aV B0) hH e d12_rootOf_50
abbrev b12_whyNot : ByteArray := prog_14_method_42_code
def y12_whyNot : MethodName := ⟨cn_12, "whyNot", "(I)I"⟩
theorem d12_whyNot_0 : decode b12_whyNot 0 = .ok (.aload_n 0, 1) := by decide +kernel
theorem d12_whyNot_1 : decode b12_whyNot 1 = .ok (.iload_n 1, 1) := by decide +kernel
theorem d12_whyNot_2 : decode b12_whyNot 2 = .ok (.invokevirtual 220, 3) := by decide +kernel
theorem d12_whyNot_5 : decode b12_whyNot 5 = .ok (.ifCond .ne 6, 3) := by decide +kernel
theorem d12_whyNot_8 : decode b12_whyNot 8 = .ok (.bipush (-2), 2) := by decide +kernel
theorem d12_whyNot_10 : decode b12_whyNot 10 = .ok (.ireturn, 1) := by decide +kernel
theorem d12_whyNot_11 : decode b12_whyNot 11 = .ok (.aload_n 0, 1) := by decide +kernel
theorem d12_whyNot_12 : decode b12_whyNot 12 = .ok (.invokevirtual 256, 3) := by decide +kernel
theorem d12_whyNot_15 : decode b12_whyNot 15 = .ok (.aload_n 0, 1) := by decide +kernel
theorem d12_whyNot_16 : decode b12_whyNot 16 = .ok (.iload_n 1, 1) := by decide +kernel
theorem d12_whyNot_17 : decode b12_whyNot 17 = .ok (.invokevirtual 233, 3) := by decide +kernel
theorem d12_whyNot_20 : decode b12_whyNot 20 = .ok (.ifCond .eq 7, 3) := by decide +kernel
theorem d12_whyNot_23 : decode b12_whyNot 23 = .ok (.iconst (-1), 1) := by decide +kernel
theorem d12_whyNot_24 : decode b12_whyNot 24 = .ok (.goto 4, 3) := by decide +kernel
theorem d12_whyNot_27 : decode b12_whyNot 27 = .ok (.iconst 0, 1) := by decide +kernel
theorem d12_whyNot_28 : decode b12_whyNot 28 = .ok (.ireturn, 1) := by decide +kernel
theorem mc12_runs : Cond.code y12_runs b12_runs 3 none ∈ ce_cm := ce_cm_of (List.mem_of_getElem? (i := 1400) (by decide +kernel)) (by decide +kernel)
theorem ml_12_256 : Cond.methodLink cn_12 256 y12_runs ∈ ce_cm := ce_cm_of (List.mem_of_getElem? (i := 1397) (by decide +kernel)) (by decide +kernel)
theorem mi12_runs : Cond.instanceMethod y12_runs ∈ ce_cm := ce_cm_of (List.mem_of_getElem? (i := 1399) (by decide +kernel)) (by decide +kernel)
theorem ms12_runs : Cond.selects cn_12 y12_runs y12_runs ∈ ce_cm := ce_cm_of (List.mem_of_getElem? (i := 56) (by decide +kernel)) (by decide +kernel)
def f12_whyNot (F : Nat) (x1 : Int32) (h : Hp) : Option (Int32 × Hp) :=
  Option.bind (f12_isNode F x1 h) (fun o2 =>
    if o2.1 = 0 then
      some ((-2 : Int32), o2.2)
    else
      Option.bind (f12_runs F  o2.2) (fun o12 =>
        Option.bind (f12_isLoop F x1 o12) (fun o17 =>
          if o17.1 = 0 then
            some ((0 : Int32), o17.2)
          else
            some ((-1 : Int32), o17.2))))
set_option maxRecDepth 20000 in
theorem c12_whyNot (l : Launch) (D : va_G) (ad : Nat → Nat) (cA : Nat → ClassId) (aK aV : Nat → Nat) (B0 : Nat) (hA : ce_Ad ad B0) (F : Nat) (x1 : Int32)  (h : Hp) (r : Int32 × Hp) (e : f12_whyNot F x1 h = some r) : ce_Ct l D ad cA B0 (ce_St aK aV B0) y12_whyNot b12_whyNot 2 (some .int) 4 91 0 0 [.ref (ad 68), .int x1] h (some (.int r.1)) r.2 := by
  refine ce_enter hA (by decide) rfl (Nat.le_of_ble_eq_true rfl) (fun p e0 s m below meth c ls C hH hl => ?_)
  have hl : lv_has ls 2 [(0, .ref (ad 68)), (1, .int x1)] := hl
  have hx := C.1
  have hb := C.2.1
  have e : Option.bind _ some = some r := (congrArg (fun z => Option.bind z some) e).trans rfl
  unfold f12_whyNot at e
  refine lv_aload_n hx hb d12_whyNot_0 rfl (lv_at hl 0 rfl) ?_
  refine lv_iload_n hx hb d12_whyNot_1 rfl (lv_at hl 1 rfl) ?_
  obtain ⟨o2, eo2, e⟩ := ce_bd e
  refine ce_callV (As := [.int x1]) (rest := []) C (ce_sok aK aV B0) hH (c12_isNode l D ad cA aK aV B0 C.2.2.2.2.2.2.1 F x1  h o2 eo2) lo_68.1 lo_68.2.choose_spec rfl rfl mc12_isNode ml_12_220 mi12_isNode ms12_isNode mI_12 (n := 1) (by decide) rfl ⟨Nat.le_of_ble_eq_true rfl, Nat.le_of_ble_eq_true rfl⟩ ⟨Nat.le_of_ble_eq_true rfl, Nat.le_of_ble_eq_true rfl⟩ hl.1 rfl (Nat.le_of_ble_eq_true rfl) d12_whyNot_2 (fun H locs hH => ?_)
  refine W.eq (g2 := F0 m 5 ls [.int o2.1]) rfl ?_
  refine lv_if_ne (tgt := 11) hx hb d12_whyNot_5 (by decide) (fun hc5 => ?_) (fun hc5 => ?_)
  · have e := ce_if0 e hc5
    refine lv_aload_n hx hb d12_whyNot_11 rfl (lv_at hl 0 rfl) ?_
    obtain ⟨o12, eo12, e⟩ := ce_bd e
    refine ce_callV (As := []) (rest := []) C (ce_sok aK aV B0) hH (c12_runs l D ad cA aK aV B0 C.2.2.2.2.2.2.1 F   o2.2 o12 eo12) lo_68.1 lo_68.2.choose_spec rfl rfl mc12_runs ml_12_256 mi12_runs ms12_runs mI_12 (n := 0) (by decide) rfl ⟨Nat.le_of_ble_eq_true rfl, Nat.le_of_ble_eq_true rfl⟩ ⟨Nat.le_of_ble_eq_true rfl, Nat.le_of_ble_eq_true rfl⟩ hl.1 rfl (Nat.le_of_ble_eq_true rfl) d12_whyNot_12 (fun H locs hH => ?_)
    refine W.eq (g2 := F0 m 15 ls []) rfl ?_
    refine lv_aload_n hx hb d12_whyNot_15 rfl (lv_at hl 0 rfl) ?_
    refine lv_iload_n hx hb d12_whyNot_16 rfl (lv_at hl 1 rfl) ?_
    obtain ⟨o17, eo17, e⟩ := ce_bd e
    refine ce_callV (As := [.int x1]) (rest := []) C (ce_sok aK aV B0) hH (c12_isLoop l D ad cA aK aV B0 C.2.2.2.2.2.2.1 F x1  o12 o17 eo17) lo_68.1 lo_68.2.choose_spec rfl rfl mc12_isLoop ml_12_233 mi12_isLoop ms12_isLoop mI_12 (n := 1) (by decide) rfl ⟨Nat.le_of_ble_eq_true rfl, Nat.le_of_ble_eq_true rfl⟩ ⟨Nat.le_of_ble_eq_true rfl, Nat.le_of_ble_eq_true rfl⟩ hl.1 rfl (Nat.le_of_ble_eq_true rfl) d12_whyNot_17 (fun H locs hH => ?_)
    refine W.eq (g2 := F0 m 20 ls [.int o17.1]) rfl ?_
    refine lv_if_eq (tgt := 27) hx hb d12_whyNot_20 (by decide) (fun hc20 => ?_) (fun hc20 => ?_)
    · have e := ce_if1 e hc20
      refine lv_iconst (v := (0 : Int32)) hx hb d12_whyNot_27 (by decide) ?_
      exact ce_iretE C (ce_sok aK aV B0) hH e d12_whyNot_28
    · have e := ce_if0 e hc20
      refine lv_iconst (v := (-1 : Int32)) hx hb d12_whyNot_23 (by decide) ?_
      refine lv_goto (tgt := 28) hx hb d12_whyNot_24 (by decide) ?_
      exact ce_iretE C (ce_sok aK aV B0) hH e d12_whyNot_28
  · have e := ce_if1 e hc5
    refine lv_bipush (v := (-2 : Int32)) hx hb d12_whyNot_8 (by decide) ?_
    exact ce_iretE C (ce_sok aK aV B0) hH e d12_whyNot_10
abbrev b12_parentOf : ByteArray := prog_14_method_43_code
def y12_parentOf : MethodName := ⟨cn_12, "parentOf", "(I)I"⟩
theorem d12_parentOf_0 : decode b12_parentOf 0 = .ok (.aload_n 0, 1) := by decide +kernel
theorem d12_parentOf_1 : decode b12_parentOf 1 = .ok (.getfield 53, 3) := by decide +kernel
theorem d12_parentOf_4 : decode b12_parentOf 4 = .ok (.iload_n 1, 1) := by decide +kernel
theorem d12_parentOf_5 : decode b12_parentOf 5 = .ok (.iaload, 1) := by decide +kernel
theorem d12_parentOf_6 : decode b12_parentOf 6 = .ok (.iconst (-1), 1) := by decide +kernel
theorem d12_parentOf_7 : decode b12_parentOf 7 = .ok (.if_icmp .ne 7, 3) := by decide +kernel
theorem d12_parentOf_10 : decode b12_parentOf 10 = .ok (.iconst (-1), 1) := by decide +kernel
theorem d12_parentOf_11 : decode b12_parentOf 11 = .ok (.goto 15, 3) := by decide +kernel
theorem d12_parentOf_14 : decode b12_parentOf 14 = .ok (.aload_n 0, 1) := by decide +kernel
theorem d12_parentOf_15 : decode b12_parentOf 15 = .ok (.aload_n 0, 1) := by decide +kernel
theorem d12_parentOf_16 : decode b12_parentOf 16 = .ok (.getfield 53, 3) := by decide +kernel
theorem d12_parentOf_19 : decode b12_parentOf 19 = .ok (.iload_n 1, 1) := by decide +kernel
theorem d12_parentOf_20 : decode b12_parentOf 20 = .ok (.iaload, 1) := by decide +kernel
theorem d12_parentOf_21 : decode b12_parentOf 21 = .ok (.invokevirtual 224, 3) := by decide +kernel
theorem d12_parentOf_24 : decode b12_parentOf 24 = .ok (.iconst 4, 1) := by decide +kernel
theorem d12_parentOf_25 : decode b12_parentOf 25 = .ok (.idiv, 1) := by decide +kernel
theorem d12_parentOf_26 : decode b12_parentOf 26 = .ok (.ireturn, 1) := by decide +kernel
def f12_parentOf (F : Nat) (x1 : Int32) (h : Hp) : Option (Int32 × Hp) :=
  if ce_in x1 10 = true then
    if (h 82 (x1).toNatClampNeg) = (-1 : Int32) then
      some ((-1 : Int32), h)
    else
      if ce_in x1 10 = true then
        Option.bind (f12_otherOf F (h 82 (x1).toNatClampNeg) h) (fun o21 =>
          some (o21.1 / (4 : Int32), o21.2))
      else none
  else none
set_option maxRecDepth 20000 in
theorem c12_parentOf (l : Launch) (D : va_G) (ad : Nat → Nat) (cA : Nat → ClassId) (aK aV : Nat → Nat) (B0 : Nat) (hA : ce_Ad ad B0) (F : Nat) (x1 : Int32)  (h : Hp) (r : Int32 × Hp) (e : f12_parentOf F x1 h = some r) : ce_Ct l D ad cA B0 (ce_St aK aV B0) y12_parentOf b12_parentOf 2 (some .int) 1 21 0 0 [.ref (ad 68), .int x1] h (some (.int r.1)) r.2 := by
  refine ce_enter hA (by decide) rfl (Nat.le_of_ble_eq_true rfl) (fun p e0 s m below meth c ls C hH hl => ?_)
  have hl : lv_has ls 2 [(0, .ref (ad 68)), (1, .int x1)] := hl
  have hx := C.1
  have hb := C.2.1
  have e : Option.bind _ some = some r := (congrArg (fun z => Option.bind z some) e).trans rfl
  unfold f12_parentOf at e
  refine lv_aload_n hx hb d12_parentOf_0 rfl (lv_at hl 0 rfl) ?_
  refine gf_12_53 C hH d12_parentOf_1 ?_
  refine lv_iload_n hx hb d12_parentOf_4 rfl (lv_at hl 1 rfl) ?_
  obtain ⟨hi5, e⟩ := ce_gd e
  refine ce_iald C hH lc_82.1 lc_82.2 (ce_in_vp hi5) d12_parentOf_5 ?_
  refine lv_iconst (v := (-1 : Int32)) hx hb d12_parentOf_6 (by decide) ?_
  refine lv_icmp_ne (tgt := 14) hx hb d12_parentOf_7 (by decide) (fun hc7 => ?_) (fun hc7 => ?_)
  · have e := ce_if0 e hc7
    refine lv_aload_n hx hb d12_parentOf_14 rfl (lv_at hl 0 rfl) ?_
    refine lv_aload_n hx hb d12_parentOf_15 rfl (lv_at hl 0 rfl) ?_
    refine gf_12_53 C hH d12_parentOf_16 ?_
    refine lv_iload_n hx hb d12_parentOf_19 rfl (lv_at hl 1 rfl) ?_
    obtain ⟨hi20, e⟩ := ce_gd e
    refine ce_iald C hH lc_82.1 lc_82.2 (ce_in_vp hi20) d12_parentOf_20 ?_
    obtain ⟨o21, eo21, e⟩ := ce_bd e
    refine ce_callV (As := [.int (h 82 (x1).toNatClampNeg)]) (rest := []) C (ce_sok aK aV B0) hH (c12_otherOf l D ad cA aK aV B0 C.2.2.2.2.2.2.1 F (h 82 (x1).toNatClampNeg)  h o21 eo21) lo_68.1 lo_68.2.choose_spec rfl rfl mc12_otherOf ml_12_224 mi12_otherOf ms12_otherOf mI_12 (n := 1) (by decide) rfl ⟨Nat.le_of_ble_eq_true rfl, Nat.le_of_ble_eq_true rfl⟩ ⟨Nat.le_of_ble_eq_true rfl, Nat.le_of_ble_eq_true rfl⟩ hl.1 rfl (Nat.le_of_ble_eq_true rfl) d12_parentOf_21 (fun H locs hH => ?_)
    refine W.eq (g2 := F0 m 24 ls [.int o21.1]) rfl ?_
    refine lv_iconst (v := (4 : Int32)) hx hb d12_parentOf_24 (by decide) ?_
    refine lv_idiv hx hb d12_parentOf_25 (by decide) ?_
    exact ce_iretE C (ce_sok aK aV B0) hH e d12_parentOf_26
  · have e := ce_if1 e hc7
    refine lv_iconst (v := (-1 : Int32)) hx hb d12_parentOf_10 (by decide) ?_
    refine lv_goto (tgt := 26) hx hb d12_parentOf_11 (by decide) ?_
    exact ce_iretE C (ce_sok aK aV B0) hH e d12_parentOf_26
abbrev b12_isChild : ByteArray := prog_14_method_44_code
def y12_isChild : MethodName := ⟨cn_12, "isChild", "(I)Z"⟩
theorem d12_isChild_0 : decode b12_isChild 0 = .ok (.aload_n 0, 1) := by decide +kernel
theorem d12_isChild_1 : decode b12_isChild 1 = .ok (.iload_n 1, 1) := by decide +kernel
theorem d12_isChild_2 : decode b12_isChild 2 = .ok (.invokevirtual 224, 3) := by decide +kernel
theorem d12_isChild_5 : decode b12_isChild 5 = .ok (.istore_n 2, 1) := by decide +kernel
theorem d12_isChild_6 : decode b12_isChild 6 = .ok (.iload_n 2, 1) := by decide +kernel
theorem d12_isChild_7 : decode b12_isChild 7 = .ok (.ifCond .lt 19, 3) := by decide +kernel
theorem d12_isChild_10 : decode b12_isChild 10 = .ok (.aload_n 0, 1) := by decide +kernel
theorem d12_isChild_11 : decode b12_isChild 11 = .ok (.getfield 53, 3) := by decide +kernel
theorem d12_isChild_14 : decode b12_isChild 14 = .ok (.iload_n 2, 1) := by decide +kernel
theorem d12_isChild_15 : decode b12_isChild 15 = .ok (.iconst 4, 1) := by decide +kernel
theorem d12_isChild_16 : decode b12_isChild 16 = .ok (.idiv, 1) := by decide +kernel
theorem d12_isChild_17 : decode b12_isChild 17 = .ok (.iaload, 1) := by decide +kernel
theorem d12_isChild_18 : decode b12_isChild 18 = .ok (.iload_n 2, 1) := by decide +kernel
theorem d12_isChild_19 : decode b12_isChild 19 = .ok (.if_icmp .ne 7, 3) := by decide +kernel
theorem d12_isChild_22 : decode b12_isChild 22 = .ok (.iconst 1, 1) := by decide +kernel
theorem d12_isChild_23 : decode b12_isChild 23 = .ok (.goto 4, 3) := by decide +kernel
theorem d12_isChild_26 : decode b12_isChild 26 = .ok (.iconst 0, 1) := by decide +kernel
theorem d12_isChild_27 : decode b12_isChild 27 = .ok (.ireturn, 1) := by decide +kernel
def f12_isChild (F : Nat) (x1 : Int32) (h : Hp) : Option (Int32 × Hp) :=
  Option.bind (f12_otherOf F x1 h) (fun o2 =>
    if o2.1 < 0 then
      some ((0 : Int32), o2.2)
    else
      if ce_in (o2.1 / (4 : Int32)) 10 = true then
        if (o2.2 82 ((o2.1 / (4 : Int32))).toNatClampNeg) = o2.1 then
          some ((1 : Int32), o2.2)
        else
          some ((0 : Int32), o2.2)
      else none)
set_option maxRecDepth 20000 in
theorem c12_isChild (l : Launch) (D : va_G) (ad : Nat → Nat) (cA : Nat → ClassId) (aK aV : Nat → Nat) (B0 : Nat) (hA : ce_Ad ad B0) (F : Nat) (x1 : Int32)  (h : Hp) (r : Int32 × Hp) (e : f12_isChild F x1 h = some r) : ce_Ct l D ad cA B0 (ce_St aK aV B0) y12_isChild b12_isChild 3 (some .boolean) 1 21 0 0 [.ref (ad 68), .int x1] h (some (.int r.1)) r.2 := by
  refine ce_enter hA (by decide) rfl (Nat.le_of_ble_eq_true rfl) (fun p e0 s m below meth c ls C hH hl => ?_)
  have hl : lv_has ls 3 [(0, .ref (ad 68)), (1, .int x1)] := hl
  have hx := C.1
  have hb := C.2.1
  have e : Option.bind _ some = some r := (congrArg (fun z => Option.bind z some) e).trans rfl
  unfold f12_isChild at e
  refine lv_aload_n hx hb d12_isChild_0 rfl (lv_at hl 0 rfl) ?_
  refine lv_iload_n hx hb d12_isChild_1 rfl (lv_at hl 1 rfl) ?_
  obtain ⟨o2, eo2, e⟩ := ce_bd e
  refine ce_callV (As := [.int x1]) (rest := []) C (ce_sok aK aV B0) hH (c12_otherOf l D ad cA aK aV B0 C.2.2.2.2.2.2.1 F x1  h o2 eo2) lo_68.1 lo_68.2.choose_spec rfl rfl mc12_otherOf ml_12_224 mi12_otherOf ms12_otherOf mI_12 (n := 1) (by decide) rfl ⟨Nat.le_of_ble_eq_true rfl, Nat.le_of_ble_eq_true rfl⟩ ⟨Nat.le_of_ble_eq_true rfl, Nat.le_of_ble_eq_true rfl⟩ hl.1 rfl (Nat.le_of_ble_eq_true rfl) d12_isChild_2 (fun H locs hH => ?_)
  refine W.eq (g2 := F0 m 5 ls [.int o2.1]) rfl ?_
  refine lv_istore_n (lv' := [(2, .int o2.1), (0, .ref (ad 68)), (1, .int x1)]) hx hb d12_isChild_5 rfl hl (by decide) rfl (fun ls hl => ?_)
  refine lv_iload_n hx hb d12_isChild_6 rfl (lv_at hl 0 rfl) ?_
  refine lv_if_lt (tgt := 26) hx hb d12_isChild_7 (by decide) (fun hc7 => ?_) (fun hc7 => ?_)
  · have e := ce_if1 e hc7
    refine lv_iconst (v := (0 : Int32)) hx hb d12_isChild_26 (by decide) ?_
    exact ce_zretE C (ce_sok aK aV B0) hH (Or.inl rfl) e d12_isChild_27
  · have e := ce_if0 e hc7
    refine lv_aload_n hx hb d12_isChild_10 rfl (lv_at hl 1 rfl) ?_
    refine gf_12_53 C hH d12_isChild_11 ?_
    refine lv_iload_n hx hb d12_isChild_14 rfl (lv_at hl 0 rfl) ?_
    refine lv_iconst (v := (4 : Int32)) hx hb d12_isChild_15 (by decide) ?_
    refine lv_idiv hx hb d12_isChild_16 (by decide) ?_
    obtain ⟨hi17, e⟩ := ce_gd e
    refine ce_iald C hH lc_82.1 lc_82.2 (ce_in_vp hi17) d12_isChild_17 ?_
    refine lv_iload_n hx hb d12_isChild_18 rfl (lv_at hl 0 rfl) ?_
    refine lv_icmp_ne (tgt := 26) hx hb d12_isChild_19 (by decide) (fun hc19 => ?_) (fun hc19 => ?_)
    · have e := ce_if0 e hc19
      refine lv_iconst (v := (0 : Int32)) hx hb d12_isChild_26 (by decide) ?_
      exact ce_zretE C (ce_sok aK aV B0) hH (Or.inl rfl) e d12_isChild_27
    · have e := ce_if1 e hc19
      refine lv_iconst (v := (1 : Int32)) hx hb d12_isChild_22 (by decide) ?_
      refine lv_goto (tgt := 27) hx hb d12_isChild_23 (by decide) ?_
      exact ce_zretE C (ce_sok aK aV B0) hH (Or.inr rfl) e d12_isChild_27
abbrev b12_port : ByteArray := prog_14_method_45_code
def y12_port : MethodName := ⟨cn_12, "port", "(III)I"⟩
theorem d12_port_0 : decode b12_port 0 = .ok (.aload_n 0, 1) := by decide +kernel
theorem d12_port_1 : decode b12_port 1 = .ok (.iload_n 1, 1) := by decide +kernel
theorem d12_port_2 : decode b12_port 2 = .ok (.iload_n 2, 1) := by decide +kernel
theorem d12_port_3 : decode b12_port 3 = .ok (.invokevirtual 259, 3) := by decide +kernel
theorem d12_port_6 : decode b12_port 6 = .ok (.ifCond .eq 15, 3) := by decide +kernel
theorem d12_port_9 : decode b12_port 9 = .ok (.iload_n 3, 1) := by decide +kernel
theorem d12_port_10 : decode b12_port 10 = .ok (.i2l, 1) := by decide +kernel
theorem d12_port_11 : decode b12_port 11 = .ok (.lconst 0, 1) := by decide +kernel
theorem d12_port_12 : decode b12_port 12 = .ok (.ldc2_w 262, 3) := by decide +kernel
theorem d12_port_15 : decode b12_port 15 = .ok (.invokestatic 98, 3) := by decide +kernel
theorem d12_port_18 : decode b12_port 18 = .ok (.ifCond .ne 6, 3) := by decide +kernel
theorem d12_port_21 : decode b12_port 21 = .ok (.bipush (-2), 2) := by decide +kernel
theorem d12_port_23 : decode b12_port 23 = .ok (.ireturn, 1) := by decide +kernel
theorem d12_port_24 : decode b12_port 24 = .ok (.iconst 4, 1) := by decide +kernel
theorem d12_port_25 : decode b12_port 25 = .ok (.iload_n 1, 1) := by decide +kernel
theorem d12_port_26 : decode b12_port 26 = .ok (.imul, 1) := by decide +kernel
theorem d12_port_27 : decode b12_port 27 = .ok (.iload_n 2, 1) := by decide +kernel
theorem d12_port_28 : decode b12_port 28 = .ok (.iadd, 1) := by decide +kernel
theorem d12_port_29 : decode b12_port 29 = .ok (.istore 4, 2) := by decide +kernel
theorem d12_port_31 : decode b12_port 31 = .ok (.aload_n 0, 1) := by decide +kernel
theorem d12_port_32 : decode b12_port 32 = .ok (.iload 4, 2) := by decide +kernel
theorem d12_port_34 : decode b12_port 34 = .ok (.invokevirtual 224, 3) := by decide +kernel
theorem d12_port_37 : decode b12_port 37 = .ok (.ifCond .ge 13, 3) := by decide +kernel
theorem d12_port_40 : decode b12_port 40 = .ok (.iload_n 3, 1) := by decide +kernel
theorem d12_port_41 : decode b12_port 41 = .ok (.ifCond .ne 7, 3) := by decide +kernel
theorem d12_port_44 : decode b12_port 44 = .ok (.iconst 0, 1) := by decide +kernel
theorem d12_port_45 : decode b12_port 45 = .ok (.goto 4, 3) := by decide +kernel
theorem d12_port_48 : decode b12_port 48 = .ok (.iconst (-1), 1) := by decide +kernel
theorem d12_port_49 : decode b12_port 49 = .ok (.ireturn, 1) := by decide +kernel
theorem d12_port_50 : decode b12_port 50 = .ok (.aload_n 0, 1) := by decide +kernel
theorem d12_port_51 : decode b12_port 51 = .ok (.invokevirtual 256, 3) := by decide +kernel
theorem d12_port_54 : decode b12_port 54 = .ok (.iload_n 3, 1) := by decide +kernel
theorem d12_port_55 : decode b12_port 55 = .ok (.tableswitch 73 0 2 #[25, 55, 64], 25) := by decide +kernel
theorem d12_port_80 : decode b12_port 80 = .ok (.aload_n 0, 1) := by decide +kernel
theorem d12_port_81 : decode b12_port 81 = .ok (.getfield 53, 3) := by decide +kernel
theorem d12_port_84 : decode b12_port 84 = .ok (.iload_n 1, 1) := by decide +kernel
theorem d12_port_85 : decode b12_port 85 = .ok (.iaload, 1) := by decide +kernel
theorem d12_port_86 : decode b12_port 86 = .ok (.iload 4, 2) := by decide +kernel
theorem d12_port_88 : decode b12_port 88 = .ok (.if_icmp .ne 7, 3) := by decide +kernel
theorem d12_port_91 : decode b12_port 91 = .ok (.iconst 1, 1) := by decide +kernel
theorem d12_port_92 : decode b12_port 92 = .ok (.goto 17, 3) := by decide +kernel
theorem d12_port_95 : decode b12_port 95 = .ok (.aload_n 0, 1) := by decide +kernel
theorem d12_port_96 : decode b12_port 96 = .ok (.iload 4, 2) := by decide +kernel
theorem d12_port_98 : decode b12_port 98 = .ok (.invokevirtual 264, 3) := by decide +kernel
theorem d12_port_101 : decode b12_port 101 = .ok (.ifCond .eq 7, 3) := by decide +kernel
theorem d12_port_104 : decode b12_port 104 = .ok (.iconst 2, 1) := by decide +kernel
theorem d12_port_105 : decode b12_port 105 = .ok (.goto 4, 3) := by decide +kernel
theorem d12_port_108 : decode b12_port 108 = .ok (.iconst 3, 1) := by decide +kernel
theorem d12_port_109 : decode b12_port 109 = .ok (.ireturn, 1) := by decide +kernel
theorem d12_port_110 : decode b12_port 110 = .ok (.aload_n 0, 1) := by decide +kernel
theorem d12_port_111 : decode b12_port 111 = .ok (.iload 4, 2) := by decide +kernel
theorem d12_port_113 : decode b12_port 113 = .ok (.invokevirtual 224, 3) := by decide +kernel
theorem d12_port_116 : decode b12_port 116 = .ok (.iconst 4, 1) := by decide +kernel
theorem d12_port_117 : decode b12_port 117 = .ok (.idiv, 1) := by decide +kernel
theorem d12_port_118 : decode b12_port 118 = .ok (.ireturn, 1) := by decide +kernel
theorem d12_port_119 : decode b12_port 119 = .ok (.aload_n 0, 1) := by decide +kernel
theorem d12_port_120 : decode b12_port 120 = .ok (.iload 4, 2) := by decide +kernel
theorem d12_port_122 : decode b12_port 122 = .ok (.invokevirtual 224, 3) := by decide +kernel
theorem d12_port_125 : decode b12_port 125 = .ok (.iconst 4, 1) := by decide +kernel
theorem d12_port_126 : decode b12_port 126 = .ok (.irem, 1) := by decide +kernel
theorem d12_port_127 : decode b12_port 127 = .ok (.ireturn, 1) := by decide +kernel
theorem d12_port_128 : decode b12_port 128 = .ok (.aload_n 0, 1) := by decide +kernel
theorem d12_port_129 : decode b12_port 129 = .ok (.getfield 7, 3) := by decide +kernel
theorem d12_port_132 : decode b12_port 132 = .ok (.bipush 85, 2) := by decide +kernel
theorem d12_port_134 : decode b12_port 134 = .ok (.iload 4, 2) := by decide +kernel
theorem d12_port_136 : decode b12_port 136 = .ok (.iadd, 1) := by decide +kernel
theorem d12_port_137 : decode b12_port 137 = .ok (.iaload, 1) := by decide +kernel
theorem d12_port_138 : decode b12_port 138 = .ok (.ireturn, 1) := by decide +kernel
theorem mk_12_262 : Cond.constantLong cn_12 262 (3) ∈ ce_cm := ce_cm_of (List.mem_of_getElem? (i := 1396) (by decide +kernel)) (by decide +kernel)
theorem mc12_isChild : Cond.code y12_isChild b12_isChild 3 (some .boolean) ∈ ce_cm := ce_cm_of (List.mem_of_getElem? (i := 1417) (by decide +kernel)) (by decide +kernel)
theorem ml_12_264 : Cond.methodLink cn_12 264 y12_isChild ∈ ce_cm := ce_cm_of (List.mem_of_getElem? (i := 1414) (by decide +kernel)) (by decide +kernel)
theorem mi12_isChild : Cond.instanceMethod y12_isChild ∈ ce_cm := ce_cm_of (List.mem_of_getElem? (i := 1416) (by decide +kernel)) (by decide +kernel)
theorem ms12_isChild : Cond.selects cn_12 y12_isChild y12_isChild ∈ ce_cm := ce_cm_of (List.mem_of_getElem? (i := 60) (by decide +kernel)) (by decide +kernel)
theorem mc12_isPort : Cond.code y12_isPort b12_isPort 3 (some .boolean) ∈ ce_cm := ce_cm_of (List.mem_of_getElem? (i := 1391) (by decide +kernel)) (by decide +kernel)
theorem ml_12_259 : Cond.methodLink cn_12 259 y12_isPort ∈ ce_cm := ce_cm_of (List.mem_of_getElem? (i := 1388) (by decide +kernel)) (by decide +kernel)
theorem mi12_isPort : Cond.instanceMethod y12_isPort ∈ ce_cm := ce_cm_of (List.mem_of_getElem? (i := 1390) (by decide +kernel)) (by decide +kernel)
theorem ms12_isPort : Cond.selects cn_12 y12_isPort y12_isPort ∈ ce_cm := ce_cm_of (List.mem_of_getElem? (i := 54) (by decide +kernel)) (by decide +kernel)
def f12_port (F : Nat) (x1 : Int32) (x2 : Int32) (x3 : Int32) (h : Hp) : Option (Int32 × Hp) :=
  Option.bind (f12_isPort F x1 x2 h) (fun o3 =>
    if o3.1 = 0 then
      some ((-2 : Int32), o3.2)
    else
      Option.bind (f12_in F ((x3).toInt64) (0 : Int64) (3 : Int64) o3.2) (fun o15 =>
        if o15.1 = 0 then
          some ((-2 : Int32), o15.2)
        else
          Option.bind (f12_otherOf F (((4 : Int32) * x1) + x2) o15.2) (fun o34 =>
            if 0 ≤ o34.1 then
              Option.bind (f12_runs F  o34.2) (fun o51 =>
                if x3 = (0 : Int32) then
                  if ce_in x1 10 = true then
                    if (o51 82 (x1).toNatClampNeg) = (((4 : Int32) * x1) + x2) then
                      some ((1 : Int32), o51)
                    else
                      Option.bind (f12_isChild F (((4 : Int32) * x1) + x2) o51) (fun o98 =>
                        if o98.1 = 0 then
                          some ((3 : Int32), o98.2)
                        else
                          some ((2 : Int32), o98.2))
                  else none
                else
                  if x3 = (1 : Int32) then
                    Option.bind (f12_otherOf F (((4 : Int32) * x1) + x2) o51) (fun o113 =>
                      some (o113.1 / (4 : Int32), o113.2))
                  else
                    if x3 = (2 : Int32) then
                      Option.bind (f12_otherOf F (((4 : Int32) * x1) + x2) o51) (fun o122 =>
                        some (o122.1 - o122.1 / (4 : Int32) * (4 : Int32), o122.2))
                    else
                      if ce_in ((85 : Int32) + (((4 : Int32) * x1) + x2)) 125 = true then
                        some (o51 69 (((85 : Int32) + (((4 : Int32) * x1) + x2))).toNatClampNeg, o51)
                      else none)
            else
              if x3 = 0 then
                some ((0 : Int32), o34.2)
              else
                some ((-1 : Int32), o34.2))))
set_option maxRecDepth 20000 in
theorem c12_port (l : Launch) (D : va_G) (ad : Nat → Nat) (cA : Nat → ClassId) (aK aV : Nat → Nat) (B0 : Nat) (hA : ce_Ad ad B0) (F : Nat) (x1 : Int32) (x2 : Int32) (x3 : Int32)  (h : Hp) (r : Int32 × Hp) (e : f12_port F x1 x2 x3 h = some r) : ce_Ct l D ad cA B0 (ce_St aK aV B0) y12_port b12_port 5 (some .int) 3 74 0 0 [.ref (ad 68), .int x1, .int x2, .int x3] h (some (.int r.1)) r.2 := by
  refine ce_enter hA (by decide) rfl (Nat.le_of_ble_eq_true rfl) (fun p e0 s m below meth c ls C hH hl => ?_)
  have hl : lv_has ls 5 [(0, .ref (ad 68)), (1, .int x1), (2, .int x2), (3, .int x3)] := hl
  have hx := C.1
  have hb := C.2.1
  have e : Option.bind _ some = some r := (congrArg (fun z => Option.bind z some) e).trans rfl
  unfold f12_port at e
  refine lv_aload_n hx hb d12_port_0 rfl (lv_at hl 0 rfl) ?_
  refine lv_iload_n hx hb d12_port_1 rfl (lv_at hl 1 rfl) ?_
  refine lv_iload_n hx hb d12_port_2 rfl (lv_at hl 2 rfl) ?_
  obtain ⟨o3, eo3, e⟩ := ce_bd e
  refine ce_callV (As := [.int x1, .int x2]) (rest := []) C (ce_sok aK aV B0) hH (c12_isPort l D ad cA aK aV B0 C.2.2.2.2.2.2.1 F x1 x2  h o3 eo3) lo_68.1 lo_68.2.choose_spec rfl rfl mc12_isPort ml_12_259 mi12_isPort ms12_isPort mI_12 (n := 2) (by decide) rfl ⟨Nat.le_of_ble_eq_true rfl, Nat.le_of_ble_eq_true rfl⟩ ⟨Nat.le_of_ble_eq_true rfl, Nat.le_of_ble_eq_true rfl⟩ hl.1 rfl (Nat.le_of_ble_eq_true rfl) d12_port_3 (fun H locs hH => ?_)
  refine W.eq (g2 := F0 m 6 ls [.int o3.1]) rfl ?_
  refine lv_if_eq (tgt := 21) hx hb d12_port_6 (by decide) (fun hc6 => ?_) (fun hc6 => ?_)
  · have e := ce_if1 e hc6
    refine lv_bipush (v := (-2 : Int32)) hx hb d12_port_21 (by decide) ?_
    exact ce_iretE C (ce_sok aK aV B0) hH e d12_port_23
  · have e := ce_if0 e hc6
    refine lv_iload_n hx hb d12_port_9 rfl (lv_at hl 3 rfl) ?_
    refine lv_i2l (v := (x3).toInt64) hx hb d12_port_10 rfl ?_
    refine lv_lconst (v := (0 : Int64)) hx hb d12_port_11 (by decide) ?_
    refine lv_ldc2 (v := (3 : Int64)) hx hb C.2.2.2.1 (C.2.2.2.2.1 _ mk_12_262) d12_port_12 ?_
    obtain ⟨o15, eo15, e⟩ := ce_bd e
    refine ce_callS (As := [.long ((x3).toInt64), .long (0 : Int64), .long (3 : Int64)]) (rest := []) C (ce_sok aK aV B0) hH (c12_in l D ad cA aK aV B0 C.2.2.2.2.2.2.1 F ((x3).toInt64) (0 : Int64) (3 : Int64)  o3.2 o15 eo15) mc12_in ml_12_98 mt12_in mI_12 (n := 3) (by decide) rfl ⟨Nat.le_of_ble_eq_true rfl, Nat.le_of_ble_eq_true rfl⟩ ⟨Nat.le_of_ble_eq_true rfl, Nat.le_of_ble_eq_true rfl⟩ hl.1 rfl (Nat.le_of_ble_eq_true rfl) d12_port_15 (fun H locs hH => ?_)
    refine W.eq (g2 := F0 m 18 ls [.int o15.1]) rfl ?_
    refine lv_if_ne (tgt := 24) hx hb d12_port_18 (by decide) (fun hc18 => ?_) (fun hc18 => ?_)
    · have e := ce_if0 e hc18
      refine lv_iconst (v := (4 : Int32)) hx hb d12_port_24 (by decide) ?_
      refine lv_iload_n hx hb d12_port_25 rfl (lv_at hl 1 rfl) ?_
      refine lv_imul hx hb d12_port_26 ?_
      refine lv_iload_n hx hb d12_port_27 rfl (lv_at hl 2 rfl) ?_
      refine lv_iadd hx hb d12_port_28 ?_
      refine lv_istore (lv' := [(4, .int (((4 : Int32) * x1) + x2)), (0, .ref (ad 68)), (1, .int x1), (2, .int x2), (3, .int x3)]) hx hb d12_port_29 hl (by decide) rfl (fun ls hl => ?_)
      refine lv_aload_n hx hb d12_port_31 rfl (lv_at hl 1 rfl) ?_
      refine lv_iload hx hb d12_port_32 (lv_at hl 0 rfl) ?_
      obtain ⟨o34, eo34, e⟩ := ce_bd e
      refine ce_callV (As := [.int (((4 : Int32) * x1) + x2)]) (rest := []) C (ce_sok aK aV B0) hH (c12_otherOf l D ad cA aK aV B0 C.2.2.2.2.2.2.1 F (((4 : Int32) * x1) + x2)  o15.2 o34 eo34) lo_68.1 lo_68.2.choose_spec rfl rfl mc12_otherOf ml_12_224 mi12_otherOf ms12_otherOf mI_12 (n := 1) (by decide) rfl ⟨Nat.le_of_ble_eq_true rfl, Nat.le_of_ble_eq_true rfl⟩ ⟨Nat.le_of_ble_eq_true rfl, Nat.le_of_ble_eq_true rfl⟩ hl.1 rfl (Nat.le_of_ble_eq_true rfl) d12_port_34 (fun H locs hH => ?_)
      refine W.eq (g2 := F0 m 37 ls [.int o34.1]) rfl ?_
      refine lv_if_ge (tgt := 50) hx hb d12_port_37 (by decide) (fun hc37 => ?_) (fun hc37 => ?_)
      · have e := ce_if1 e hc37
        refine lv_aload_n hx hb d12_port_50 rfl (lv_at hl 1 rfl) ?_
        obtain ⟨o51, eo51, e⟩ := ce_bd e
        refine ce_callV (As := []) (rest := []) C (ce_sok aK aV B0) hH (c12_runs l D ad cA aK aV B0 C.2.2.2.2.2.2.1 F   o34.2 o51 eo51) lo_68.1 lo_68.2.choose_spec rfl rfl mc12_runs ml_12_256 mi12_runs ms12_runs mI_12 (n := 0) (by decide) rfl ⟨Nat.le_of_ble_eq_true rfl, Nat.le_of_ble_eq_true rfl⟩ ⟨Nat.le_of_ble_eq_true rfl, Nat.le_of_ble_eq_true rfl⟩ hl.1 rfl (Nat.le_of_ble_eq_true rfl) d12_port_51 (fun H locs hH => ?_)
        refine W.eq (g2 := F0 m 54 ls []) rfl ?_
        refine lv_iload_n hx hb d12_port_54 rfl (lv_at hl 4 rfl) ?_
        by_cases hc55_0 : x3 = (0 : Int32)
        · have e := ce_if1 e hc55_0
          refine lv_tableIn (off := 25) (tgt := 80) hx hb d12_port_55 (by rw [hc55_0]; decide) (by rw [hc55_0]; decide) (by rw [hc55_0]; rfl) (by decide) ?_
          refine lv_aload_n hx hb d12_port_80 rfl (lv_at hl 1 rfl) ?_
          refine gf_12_53 C hH d12_port_81 ?_
          refine lv_iload_n hx hb d12_port_84 rfl (lv_at hl 2 rfl) ?_
          obtain ⟨hi85, e⟩ := ce_gd e
          refine ce_iald C hH lc_82.1 lc_82.2 (ce_in_vp hi85) d12_port_85 ?_
          refine lv_iload hx hb d12_port_86 (lv_at hl 0 rfl) ?_
          refine lv_icmp_ne (tgt := 95) hx hb d12_port_88 (by decide) (fun hc88 => ?_) (fun hc88 => ?_)
          · have e := ce_if0 e hc88
            refine lv_aload_n hx hb d12_port_95 rfl (lv_at hl 1 rfl) ?_
            refine lv_iload hx hb d12_port_96 (lv_at hl 0 rfl) ?_
            obtain ⟨o98, eo98, e⟩ := ce_bd e
            refine ce_callV (As := [.int (((4 : Int32) * x1) + x2)]) (rest := []) C (ce_sok aK aV B0) hH (c12_isChild l D ad cA aK aV B0 C.2.2.2.2.2.2.1 F (((4 : Int32) * x1) + x2)  o51 o98 eo98) lo_68.1 lo_68.2.choose_spec rfl rfl mc12_isChild ml_12_264 mi12_isChild ms12_isChild mI_12 (n := 1) (by decide) rfl ⟨Nat.le_of_ble_eq_true rfl, Nat.le_of_ble_eq_true rfl⟩ ⟨Nat.le_of_ble_eq_true rfl, Nat.le_of_ble_eq_true rfl⟩ hl.1 rfl (Nat.le_of_ble_eq_true rfl) d12_port_98 (fun H locs hH => ?_)
            refine W.eq (g2 := F0 m 101 ls [.int o98.1]) rfl ?_
            refine lv_if_eq (tgt := 108) hx hb d12_port_101 (by decide) (fun hc101 => ?_) (fun hc101 => ?_)
            · have e := ce_if1 e hc101
              refine lv_iconst (v := (3 : Int32)) hx hb d12_port_108 (by decide) ?_
              exact ce_iretE C (ce_sok aK aV B0) hH e d12_port_109
            · have e := ce_if0 e hc101
              refine lv_iconst (v := (2 : Int32)) hx hb d12_port_104 (by decide) ?_
              refine lv_goto (tgt := 109) hx hb d12_port_105 (by decide) ?_
              exact ce_iretE C (ce_sok aK aV B0) hH e d12_port_109
          · have e := ce_if1 e hc88
            refine lv_iconst (v := (1 : Int32)) hx hb d12_port_91 (by decide) ?_
            refine lv_goto (tgt := 109) hx hb d12_port_92 (by decide) ?_
            exact ce_iretE C (ce_sok aK aV B0) hH e d12_port_109
        · have e := ce_if0 e hc55_0
          by_cases hc55_1 : x3 = (1 : Int32)
          · have e := ce_if1 e hc55_1
            refine lv_tableIn (off := 55) (tgt := 110) hx hb d12_port_55 (by rw [hc55_1]; decide) (by rw [hc55_1]; decide) (by rw [hc55_1]; rfl) (by decide) ?_
            refine lv_aload_n hx hb d12_port_110 rfl (lv_at hl 1 rfl) ?_
            refine lv_iload hx hb d12_port_111 (lv_at hl 0 rfl) ?_
            obtain ⟨o113, eo113, e⟩ := ce_bd e
            refine ce_callV (As := [.int (((4 : Int32) * x1) + x2)]) (rest := []) C (ce_sok aK aV B0) hH (c12_otherOf l D ad cA aK aV B0 C.2.2.2.2.2.2.1 F (((4 : Int32) * x1) + x2)  o51 o113 eo113) lo_68.1 lo_68.2.choose_spec rfl rfl mc12_otherOf ml_12_224 mi12_otherOf ms12_otherOf mI_12 (n := 1) (by decide) rfl ⟨Nat.le_of_ble_eq_true rfl, Nat.le_of_ble_eq_true rfl⟩ ⟨Nat.le_of_ble_eq_true rfl, Nat.le_of_ble_eq_true rfl⟩ hl.1 rfl (Nat.le_of_ble_eq_true rfl) d12_port_113 (fun H locs hH => ?_)
            refine W.eq (g2 := F0 m 116 ls [.int o113.1]) rfl ?_
            refine lv_iconst (v := (4 : Int32)) hx hb d12_port_116 (by decide) ?_
            refine lv_idiv hx hb d12_port_117 (by decide) ?_
            exact ce_iretE C (ce_sok aK aV B0) hH e d12_port_118
          · have e := ce_if0 e hc55_1
            by_cases hc55_2 : x3 = (2 : Int32)
            · have e := ce_if1 e hc55_2
              refine lv_tableIn (off := 64) (tgt := 119) hx hb d12_port_55 (by rw [hc55_2]; decide) (by rw [hc55_2]; decide) (by rw [hc55_2]; rfl) (by decide) ?_
              refine lv_aload_n hx hb d12_port_119 rfl (lv_at hl 1 rfl) ?_
              refine lv_iload hx hb d12_port_120 (lv_at hl 0 rfl) ?_
              obtain ⟨o122, eo122, e⟩ := ce_bd e
              refine ce_callV (As := [.int (((4 : Int32) * x1) + x2)]) (rest := []) C (ce_sok aK aV B0) hH (c12_otherOf l D ad cA aK aV B0 C.2.2.2.2.2.2.1 F (((4 : Int32) * x1) + x2)  o51 o122 eo122) lo_68.1 lo_68.2.choose_spec rfl rfl mc12_otherOf ml_12_224 mi12_otherOf ms12_otherOf mI_12 (n := 1) (by decide) rfl ⟨Nat.le_of_ble_eq_true rfl, Nat.le_of_ble_eq_true rfl⟩ ⟨Nat.le_of_ble_eq_true rfl, Nat.le_of_ble_eq_true rfl⟩ hl.1 rfl (Nat.le_of_ble_eq_true rfl) d12_port_122 (fun H locs hH => ?_)
              refine W.eq (g2 := F0 m 125 ls [.int o122.1]) rfl ?_
              refine lv_iconst (v := (4 : Int32)) hx hb d12_port_125 (by decide) ?_
              refine lv_irem hx hb d12_port_126 (by decide) ?_
              exact ce_iretE C (ce_sok aK aV B0) hH e d12_port_127
            · have e := ce_if0 e hc55_2
              refine lv_tableOut (tgt := 128) hx hb d12_port_55 (ce_tblOut (n := 3) (fun i hi => ?_) (by decide)) (by decide) ?_
              · match i, hi with
                | 0, _ => exact hc55_0
                | 1, _ => exact hc55_1
                | 2, _ => exact hc55_2
                | i + 3, hi => exact absurd hi (by omega)
              · refine lv_aload_n hx hb d12_port_128 rfl (lv_at hl 1 rfl) ?_
                refine gf_12_7 C hH d12_port_129 ?_
                refine lv_bipush (v := (85 : Int32)) hx hb d12_port_132 (by decide) ?_
                refine lv_iload hx hb d12_port_134 (lv_at hl 0 rfl) ?_
                refine lv_iadd hx hb d12_port_136 ?_
                obtain ⟨hi137, e⟩ := ce_gd e
                refine ce_iald C hH lc_69.1 lc_69.2 (ce_in_vp hi137) d12_port_137 ?_
                exact ce_iretE C (ce_sok aK aV B0) hH e d12_port_138
      · have e := ce_if0 e hc37
        refine lv_iload_n hx hb d12_port_40 rfl (lv_at hl 4 rfl) ?_
        refine lv_if_ne (tgt := 48) hx hb d12_port_41 (by decide) (fun hc41 => ?_) (fun hc41 => ?_)
        · have e := ce_if0 e hc41
          refine lv_iconst (v := (-1 : Int32)) hx hb d12_port_48 (by decide) ?_
          exact ce_iretE C (ce_sok aK aV B0) hH e d12_port_49
        · have e := ce_if1 e hc41
          refine lv_iconst (v := (0 : Int32)) hx hb d12_port_44 (by decide) ?_
          refine lv_goto (tgt := 49) hx hb d12_port_45 (by decide) ?_
          exact ce_iretE C (ce_sok aK aV B0) hH e d12_port_49
    · have e := ce_if1 e hc18
      refine lv_bipush (v := (-2 : Int32)) hx hb d12_port_21 (by decide) ?_
      exact ce_iretE C (ce_sok aK aV B0) hH e d12_port_23
abbrev b12_root : ByteArray := prog_14_method_46_code
def y12_root : MethodName := ⟨cn_12, "root", "(I)I"⟩
theorem d12_root_0 : decode b12_root 0 = .ok (.aload_n 0, 1) := by decide +kernel
theorem d12_root_1 : decode b12_root 1 = .ok (.iload_n 1, 1) := by decide +kernel
theorem d12_root_2 : decode b12_root 2 = .ok (.invokevirtual 267, 3) := by decide +kernel
theorem d12_root_5 : decode b12_root 5 = .ok (.istore_n 2, 1) := by decide +kernel
theorem d12_root_6 : decode b12_root 6 = .ok (.iload_n 2, 1) := by decide +kernel
theorem d12_root_7 : decode b12_root 7 = .ok (.ifCond .ge 7, 3) := by decide +kernel
theorem d12_root_10 : decode b12_root 10 = .ok (.iload_n 2, 1) := by decide +kernel
theorem d12_root_11 : decode b12_root 11 = .ok (.goto 8, 3) := by decide +kernel
theorem d12_root_14 : decode b12_root 14 = .ok (.aload_n 0, 1) := by decide +kernel
theorem d12_root_15 : decode b12_root 15 = .ok (.iload_n 1, 1) := by decide +kernel
theorem d12_root_16 : decode b12_root 16 = .ok (.invokevirtual 270, 3) := by decide +kernel
theorem d12_root_19 : decode b12_root 19 = .ok (.ireturn, 1) := by decide +kernel
theorem mc12_rootOf : Cond.code y12_rootOf b12_rootOf 3 (some .int) ∈ ce_cm := ce_cm_of (List.mem_of_getElem? (i := 1429) (by decide +kernel)) (by decide +kernel)
theorem ml_12_270 : Cond.methodLink cn_12 270 y12_rootOf ∈ ce_cm := ce_cm_of (List.mem_of_getElem? (i := 1426) (by decide +kernel)) (by decide +kernel)
theorem mi12_rootOf : Cond.instanceMethod y12_rootOf ∈ ce_cm := ce_cm_of (List.mem_of_getElem? (i := 1428) (by decide +kernel)) (by decide +kernel)
theorem ms12_rootOf : Cond.selects cn_12 y12_rootOf y12_rootOf ∈ ce_cm := ce_cm_of (List.mem_of_getElem? (i := 62) (by decide +kernel)) (by decide +kernel)
theorem mc12_whyNot : Cond.code y12_whyNot b12_whyNot 2 (some .int) ∈ ce_cm := ce_cm_of (List.mem_of_getElem? (i := 1425) (by decide +kernel)) (by decide +kernel)
theorem ml_12_267 : Cond.methodLink cn_12 267 y12_whyNot ∈ ce_cm := ce_cm_of (List.mem_of_getElem? (i := 1422) (by decide +kernel)) (by decide +kernel)
theorem mi12_whyNot : Cond.instanceMethod y12_whyNot ∈ ce_cm := ce_cm_of (List.mem_of_getElem? (i := 1424) (by decide +kernel)) (by decide +kernel)
theorem ms12_whyNot : Cond.selects cn_12 y12_whyNot y12_whyNot ∈ ce_cm := ce_cm_of (List.mem_of_getElem? (i := 61) (by decide +kernel)) (by decide +kernel)
def f12_root (F : Nat) (x1 : Int32) (h : Hp) : Option (Int32 × Hp) :=
  Option.bind (f12_whyNot F x1 h) (fun o2 =>
    if 0 ≤ o2.1 then
      Option.bind (f12_rootOf F x1 o2.2) (fun o16 =>
        some (o16.1, o16.2))
    else
      some (o2.1, o2.2))
set_option maxRecDepth 20000 in
theorem c12_root (l : Launch) (D : va_G) (ad : Nat → Nat) (cA : Nat → ClassId) (aK aV : Nat → Nat) (B0 : Nat) (hA : ce_Ad ad B0) (F : Nat) (x1 : Int32)  (h : Hp) (r : Int32 × Hp) (e : f12_root F x1 h = some r) : ce_Ct l D ad cA B0 (ce_St aK aV B0) y12_root b12_root 3 (some .int) 5 112 0 0 [.ref (ad 68), .int x1] h (some (.int r.1)) r.2 := by
  refine ce_enter hA (by decide) rfl (Nat.le_of_ble_eq_true rfl) (fun p e0 s m below meth c ls C hH hl => ?_)
  have hl : lv_has ls 3 [(0, .ref (ad 68)), (1, .int x1)] := hl
  have hx := C.1
  have hb := C.2.1
  have e : Option.bind _ some = some r := (congrArg (fun z => Option.bind z some) e).trans rfl
  unfold f12_root at e
  refine lv_aload_n hx hb d12_root_0 rfl (lv_at hl 0 rfl) ?_
  refine lv_iload_n hx hb d12_root_1 rfl (lv_at hl 1 rfl) ?_
  obtain ⟨o2, eo2, e⟩ := ce_bd e
  refine ce_callV (As := [.int x1]) (rest := []) C (ce_sok aK aV B0) hH (c12_whyNot l D ad cA aK aV B0 C.2.2.2.2.2.2.1 F x1  h o2 eo2) lo_68.1 lo_68.2.choose_spec rfl rfl mc12_whyNot ml_12_267 mi12_whyNot ms12_whyNot mI_12 (n := 1) (by decide) rfl ⟨Nat.le_of_ble_eq_true rfl, Nat.le_of_ble_eq_true rfl⟩ ⟨Nat.le_of_ble_eq_true rfl, Nat.le_of_ble_eq_true rfl⟩ hl.1 rfl (Nat.le_of_ble_eq_true rfl) d12_root_2 (fun H locs hH => ?_)
  refine W.eq (g2 := F0 m 5 ls [.int o2.1]) rfl ?_
  refine lv_istore_n (lv' := [(2, .int o2.1), (0, .ref (ad 68)), (1, .int x1)]) hx hb d12_root_5 rfl hl (by decide) rfl (fun ls hl => ?_)
  refine lv_iload_n hx hb d12_root_6 rfl (lv_at hl 0 rfl) ?_
  refine lv_if_ge (tgt := 14) hx hb d12_root_7 (by decide) (fun hc7 => ?_) (fun hc7 => ?_)
  · have e := ce_if1 e hc7
    refine lv_aload_n hx hb d12_root_14 rfl (lv_at hl 1 rfl) ?_
    refine lv_iload_n hx hb d12_root_15 rfl (lv_at hl 2 rfl) ?_
    obtain ⟨o16, eo16, e⟩ := ce_bd e
    refine ce_callV (As := [.int x1]) (rest := []) C (ce_sok aK aV B0) hH (c12_rootOf l D ad cA aK aV B0 C.2.2.2.2.2.2.1 F x1  o2.2 o16 eo16) lo_68.1 lo_68.2.choose_spec rfl rfl mc12_rootOf ml_12_270 mi12_rootOf ms12_rootOf mI_12 (n := 1) (by decide) rfl ⟨Nat.le_of_ble_eq_true rfl, Nat.le_of_ble_eq_true rfl⟩ ⟨Nat.le_of_ble_eq_true rfl, Nat.le_of_ble_eq_true rfl⟩ hl.1 rfl (Nat.le_of_ble_eq_true rfl) d12_root_16 (fun H locs hH => ?_)
    refine W.eq (g2 := F0 m 19 ls [.int o16.1]) rfl ?_
    exact ce_iretE C (ce_sok aK aV B0) hH e d12_root_19
  · have e := ce_if0 e hc7
    refine lv_iload_n hx hb d12_root_10 rfl (lv_at hl 0 rfl) ?_
    refine lv_goto (tgt := 19) hx hb d12_root_11 (by decide) ?_
    exact ce_iretE C (ce_sok aK aV B0) hH e d12_root_19
abbrev b12_settled : ByteArray := prog_14_method_47_code
def y12_settled : MethodName := ⟨cn_12, "settled", "(I)I"⟩
theorem d12_settled_0 : decode b12_settled 0 = .ok (.aload_n 0, 1) := by decide +kernel
theorem d12_settled_1 : decode b12_settled 1 = .ok (.iload_n 1, 1) := by decide +kernel
theorem d12_settled_2 : decode b12_settled 2 = .ok (.invokevirtual 267, 3) := by decide +kernel
theorem d12_settled_5 : decode b12_settled 5 = .ok (.istore_n 2, 1) := by decide +kernel
theorem d12_settled_6 : decode b12_settled 6 = .ok (.iload_n 2, 1) := by decide +kernel
theorem d12_settled_7 : decode b12_settled 7 = .ok (.ifCond .ge 7, 3) := by decide +kernel
theorem d12_settled_10 : decode b12_settled 10 = .ok (.iload_n 2, 1) := by decide +kernel
theorem d12_settled_11 : decode b12_settled 11 = .ok (.goto 13, 3) := by decide +kernel
theorem d12_settled_14 : decode b12_settled 14 = .ok (.aload_n 0, 1) := by decide +kernel
theorem d12_settled_15 : decode b12_settled 15 = .ok (.getfield 47, 3) := by decide +kernel
theorem d12_settled_18 : decode b12_settled 18 = .ok (.aload_n 0, 1) := by decide +kernel
theorem d12_settled_19 : decode b12_settled 19 = .ok (.iload_n 1, 1) := by decide +kernel
theorem d12_settled_20 : decode b12_settled 20 = .ok (.invokevirtual 270, 3) := by decide +kernel
theorem d12_settled_23 : decode b12_settled 23 = .ok (.iaload, 1) := by decide +kernel
theorem d12_settled_24 : decode b12_settled 24 = .ok (.ireturn, 1) := by decide +kernel
def f12_settled (F : Nat) (x1 : Int32) (h : Hp) : Option (Int32 × Hp) :=
  Option.bind (f12_whyNot F x1 h) (fun o2 =>
    if 0 ≤ o2.1 then
      Option.bind (f12_rootOf F x1 o2.2) (fun o20 =>
        if ce_in o20.1 10 = true then
          some (o20.2 80 (o20.1).toNatClampNeg, o20.2)
        else none)
    else
      some (o2.1, o2.2))
set_option maxRecDepth 20000 in
theorem c12_settled (l : Launch) (D : va_G) (ad : Nat → Nat) (cA : Nat → ClassId) (aK aV : Nat → Nat) (B0 : Nat) (hA : ce_Ad ad B0) (F : Nat) (x1 : Int32)  (h : Hp) (r : Int32 × Hp) (e : f12_settled F x1 h = some r) : ce_Ct l D ad cA B0 (ce_St aK aV B0) y12_settled b12_settled 3 (some .int) 5 112 0 0 [.ref (ad 68), .int x1] h (some (.int r.1)) r.2 := by
  refine ce_enter hA (by decide) rfl (Nat.le_of_ble_eq_true rfl) (fun p e0 s m below meth c ls C hH hl => ?_)
  have hl : lv_has ls 3 [(0, .ref (ad 68)), (1, .int x1)] := hl
  have hx := C.1
  have hb := C.2.1
  have e : Option.bind _ some = some r := (congrArg (fun z => Option.bind z some) e).trans rfl
  unfold f12_settled at e
  refine lv_aload_n hx hb d12_settled_0 rfl (lv_at hl 0 rfl) ?_
  refine lv_iload_n hx hb d12_settled_1 rfl (lv_at hl 1 rfl) ?_
  obtain ⟨o2, eo2, e⟩ := ce_bd e
  refine ce_callV (As := [.int x1]) (rest := []) C (ce_sok aK aV B0) hH (c12_whyNot l D ad cA aK aV B0 C.2.2.2.2.2.2.1 F x1  h o2 eo2) lo_68.1 lo_68.2.choose_spec rfl rfl mc12_whyNot ml_12_267 mi12_whyNot ms12_whyNot mI_12 (n := 1) (by decide) rfl ⟨Nat.le_of_ble_eq_true rfl, Nat.le_of_ble_eq_true rfl⟩ ⟨Nat.le_of_ble_eq_true rfl, Nat.le_of_ble_eq_true rfl⟩ hl.1 rfl (Nat.le_of_ble_eq_true rfl) d12_settled_2 (fun H locs hH => ?_)
  refine W.eq (g2 := F0 m 5 ls [.int o2.1]) rfl ?_
  refine lv_istore_n (lv' := [(2, .int o2.1), (0, .ref (ad 68)), (1, .int x1)]) hx hb d12_settled_5 rfl hl (by decide) rfl (fun ls hl => ?_)
  refine lv_iload_n hx hb d12_settled_6 rfl (lv_at hl 0 rfl) ?_
  refine lv_if_ge (tgt := 14) hx hb d12_settled_7 (by decide) (fun hc7 => ?_) (fun hc7 => ?_)
  · have e := ce_if1 e hc7
    refine lv_aload_n hx hb d12_settled_14 rfl (lv_at hl 1 rfl) ?_
    refine gf_12_47 C hH d12_settled_15 ?_
    refine lv_aload_n hx hb d12_settled_18 rfl (lv_at hl 1 rfl) ?_
    refine lv_iload_n hx hb d12_settled_19 rfl (lv_at hl 2 rfl) ?_
    obtain ⟨o20, eo20, e⟩ := ce_bd e
    refine ce_callV (As := [.int x1]) (rest := [.ref (ad 80)]) C (ce_sok aK aV B0) hH (c12_rootOf l D ad cA aK aV B0 C.2.2.2.2.2.2.1 F x1  o2.2 o20 eo20) lo_68.1 lo_68.2.choose_spec rfl rfl mc12_rootOf ml_12_270 mi12_rootOf ms12_rootOf mI_12 (n := 1) (by decide) rfl ⟨Nat.le_of_ble_eq_true rfl, Nat.le_of_ble_eq_true rfl⟩ ⟨Nat.le_of_ble_eq_true rfl, Nat.le_of_ble_eq_true rfl⟩ hl.1 rfl (Nat.le_of_ble_eq_true rfl) d12_settled_20 (fun H locs hH => ?_)
    refine W.eq (g2 := F0 m 23 ls [.int o20.1, .ref (ad 80)]) rfl ?_
    obtain ⟨hi23, e⟩ := ce_gd e
    refine ce_iald C hH lc_80.1 lc_80.2 (ce_in_vp hi23) d12_settled_23 ?_
    exact ce_iretE C (ce_sok aK aV B0) hH e d12_settled_24
  · have e := ce_if0 e hc7
    refine lv_iload_n hx hb d12_settled_10 rfl (lv_at hl 0 rfl) ?_
    refine lv_goto (tgt := 24) hx hb d12_settled_11 (by decide) ?_
    exact ce_iretE C (ce_sok aK aV B0) hH e d12_settled_24
abbrev b12_called : ByteArray := prog_14_method_48_code
def y12_called : MethodName := ⟨cn_12, "called", "(I)I"⟩
theorem d12_called_0 : decode b12_called 0 = .ok (.aload_n 0, 1) := by decide +kernel
theorem d12_called_1 : decode b12_called 1 = .ok (.iload_n 1, 1) := by decide +kernel
theorem d12_called_2 : decode b12_called 2 = .ok (.invokevirtual 220, 3) := by decide +kernel
theorem d12_called_5 : decode b12_called 5 = .ok (.ifCond .ne 6, 3) := by decide +kernel
theorem d12_called_8 : decode b12_called 8 = .ok (.bipush (-2), 2) := by decide +kernel
theorem d12_called_10 : decode b12_called 10 = .ok (.ireturn, 1) := by decide +kernel
theorem d12_called_11 : decode b12_called 11 = .ok (.aload_n 0, 1) := by decide +kernel
theorem d12_called_12 : decode b12_called 12 = .ok (.invokevirtual 256, 3) := by decide +kernel
theorem d12_called_15 : decode b12_called 15 = .ok (.aload_n 0, 1) := by decide +kernel
theorem d12_called_16 : decode b12_called 16 = .ok (.getfield 38, 3) := by decide +kernel
theorem d12_called_19 : decode b12_called 19 = .ok (.iload_n 1, 1) := by decide +kernel
theorem d12_called_20 : decode b12_called 20 = .ok (.iaload, 1) := by decide +kernel
theorem d12_called_21 : decode b12_called 21 = .ok (.ireturn, 1) := by decide +kernel
def f12_called (F : Nat) (x1 : Int32) (h : Hp) : Option (Int32 × Hp) :=
  Option.bind (f12_isNode F x1 h) (fun o2 =>
    if o2.1 = 0 then
      some ((-2 : Int32), o2.2)
    else
      Option.bind (f12_runs F  o2.2) (fun o12 =>
        if ce_in x1 10 = true then
          some (o12 77 (x1).toNatClampNeg, o12)
        else none))
set_option maxRecDepth 20000 in
theorem c12_called (l : Launch) (D : va_G) (ad : Nat → Nat) (cA : Nat → ClassId) (aK aV : Nat → Nat) (B0 : Nat) (hA : ce_Ad ad B0) (F : Nat) (x1 : Int32)  (h : Hp) (r : Int32 × Hp) (e : f12_called F x1 h = some r) : ce_Ct l D ad cA B0 (ce_St aK aV B0) y12_called b12_called 2 (some .int) 3 74 0 0 [.ref (ad 68), .int x1] h (some (.int r.1)) r.2 := by
  refine ce_enter hA (by decide) rfl (Nat.le_of_ble_eq_true rfl) (fun p e0 s m below meth c ls C hH hl => ?_)
  have hl : lv_has ls 2 [(0, .ref (ad 68)), (1, .int x1)] := hl
  have hx := C.1
  have hb := C.2.1
  have e : Option.bind _ some = some r := (congrArg (fun z => Option.bind z some) e).trans rfl
  unfold f12_called at e
  refine lv_aload_n hx hb d12_called_0 rfl (lv_at hl 0 rfl) ?_
  refine lv_iload_n hx hb d12_called_1 rfl (lv_at hl 1 rfl) ?_
  obtain ⟨o2, eo2, e⟩ := ce_bd e
  refine ce_callV (As := [.int x1]) (rest := []) C (ce_sok aK aV B0) hH (c12_isNode l D ad cA aK aV B0 C.2.2.2.2.2.2.1 F x1  h o2 eo2) lo_68.1 lo_68.2.choose_spec rfl rfl mc12_isNode ml_12_220 mi12_isNode ms12_isNode mI_12 (n := 1) (by decide) rfl ⟨Nat.le_of_ble_eq_true rfl, Nat.le_of_ble_eq_true rfl⟩ ⟨Nat.le_of_ble_eq_true rfl, Nat.le_of_ble_eq_true rfl⟩ hl.1 rfl (Nat.le_of_ble_eq_true rfl) d12_called_2 (fun H locs hH => ?_)
  refine W.eq (g2 := F0 m 5 ls [.int o2.1]) rfl ?_
  refine lv_if_ne (tgt := 11) hx hb d12_called_5 (by decide) (fun hc5 => ?_) (fun hc5 => ?_)
  · have e := ce_if0 e hc5
    refine lv_aload_n hx hb d12_called_11 rfl (lv_at hl 0 rfl) ?_
    obtain ⟨o12, eo12, e⟩ := ce_bd e
    refine ce_callV (As := []) (rest := []) C (ce_sok aK aV B0) hH (c12_runs l D ad cA aK aV B0 C.2.2.2.2.2.2.1 F   o2.2 o12 eo12) lo_68.1 lo_68.2.choose_spec rfl rfl mc12_runs ml_12_256 mi12_runs ms12_runs mI_12 (n := 0) (by decide) rfl ⟨Nat.le_of_ble_eq_true rfl, Nat.le_of_ble_eq_true rfl⟩ ⟨Nat.le_of_ble_eq_true rfl, Nat.le_of_ble_eq_true rfl⟩ hl.1 rfl (Nat.le_of_ble_eq_true rfl) d12_called_12 (fun H locs hH => ?_)
    refine W.eq (g2 := F0 m 15 ls []) rfl ?_
    refine lv_aload_n hx hb d12_called_15 rfl (lv_at hl 0 rfl) ?_
    refine gf_12_38 C hH d12_called_16 ?_
    refine lv_iload_n hx hb d12_called_19 rfl (lv_at hl 1 rfl) ?_
    obtain ⟨hi20, e⟩ := ce_gd e
    refine ce_iald C hH lc_77.1 lc_77.2 (ce_in_vp hi20) d12_called_20 ?_
    exact ce_iretE C (ce_sok aK aV B0) hH e d12_called_21
  · have e := ce_if1 e hc5
    refine lv_bipush (v := (-2 : Int32)) hx hb d12_called_8 (by decide) ?_
    exact ce_iretE C (ce_sok aK aV B0) hH e d12_called_10
abbrev b12_rounds : ByteArray := prog_14_method_49_code
def y12_rounds : MethodName := ⟨cn_12, "rounds", "(I)I"⟩
theorem d12_rounds_0 : decode b12_rounds 0 = .ok (.aload_n 0, 1) := by decide +kernel
theorem d12_rounds_1 : decode b12_rounds 1 = .ok (.iload_n 1, 1) := by decide +kernel
theorem d12_rounds_2 : decode b12_rounds 2 = .ok (.invokevirtual 267, 3) := by decide +kernel
theorem d12_rounds_5 : decode b12_rounds 5 = .ok (.istore_n 2, 1) := by decide +kernel
theorem d12_rounds_6 : decode b12_rounds 6 = .ok (.iload_n 2, 1) := by decide +kernel
theorem d12_rounds_7 : decode b12_rounds 7 = .ok (.ifCond .ge 7, 3) := by decide +kernel
theorem d12_rounds_10 : decode b12_rounds 10 = .ok (.iload_n 2, 1) := by decide +kernel
theorem d12_rounds_11 : decode b12_rounds 11 = .ok (.goto 13, 3) := by decide +kernel
theorem d12_rounds_14 : decode b12_rounds 14 = .ok (.aload_n 0, 1) := by decide +kernel
theorem d12_rounds_15 : decode b12_rounds 15 = .ok (.getfield 50, 3) := by decide +kernel
theorem d12_rounds_18 : decode b12_rounds 18 = .ok (.aload_n 0, 1) := by decide +kernel
theorem d12_rounds_19 : decode b12_rounds 19 = .ok (.iload_n 1, 1) := by decide +kernel
theorem d12_rounds_20 : decode b12_rounds 20 = .ok (.invokevirtual 270, 3) := by decide +kernel
theorem d12_rounds_23 : decode b12_rounds 23 = .ok (.iaload, 1) := by decide +kernel
theorem d12_rounds_24 : decode b12_rounds 24 = .ok (.ireturn, 1) := by decide +kernel
def f12_rounds (F : Nat) (x1 : Int32) (h : Hp) : Option (Int32 × Hp) :=
  Option.bind (f12_whyNot F x1 h) (fun o2 =>
    if 0 ≤ o2.1 then
      Option.bind (f12_rootOf F x1 o2.2) (fun o20 =>
        if ce_in o20.1 10 = true then
          some (o20.2 81 (o20.1).toNatClampNeg, o20.2)
        else none)
    else
      some (o2.1, o2.2))
set_option maxRecDepth 20000 in
theorem c12_rounds (l : Launch) (D : va_G) (ad : Nat → Nat) (cA : Nat → ClassId) (aK aV : Nat → Nat) (B0 : Nat) (hA : ce_Ad ad B0) (F : Nat) (x1 : Int32)  (h : Hp) (r : Int32 × Hp) (e : f12_rounds F x1 h = some r) : ce_Ct l D ad cA B0 (ce_St aK aV B0) y12_rounds b12_rounds 3 (some .int) 5 112 0 0 [.ref (ad 68), .int x1] h (some (.int r.1)) r.2 := by
  refine ce_enter hA (by decide) rfl (Nat.le_of_ble_eq_true rfl) (fun p e0 s m below meth c ls C hH hl => ?_)
  have hl : lv_has ls 3 [(0, .ref (ad 68)), (1, .int x1)] := hl
  have hx := C.1
  have hb := C.2.1
  have e : Option.bind _ some = some r := (congrArg (fun z => Option.bind z some) e).trans rfl
  unfold f12_rounds at e
  refine lv_aload_n hx hb d12_rounds_0 rfl (lv_at hl 0 rfl) ?_
  refine lv_iload_n hx hb d12_rounds_1 rfl (lv_at hl 1 rfl) ?_
  obtain ⟨o2, eo2, e⟩ := ce_bd e
  refine ce_callV (As := [.int x1]) (rest := []) C (ce_sok aK aV B0) hH (c12_whyNot l D ad cA aK aV B0 C.2.2.2.2.2.2.1 F x1  h o2 eo2) lo_68.1 lo_68.2.choose_spec rfl rfl mc12_whyNot ml_12_267 mi12_whyNot ms12_whyNot mI_12 (n := 1) (by decide) rfl ⟨Nat.le_of_ble_eq_true rfl, Nat.le_of_ble_eq_true rfl⟩ ⟨Nat.le_of_ble_eq_true rfl, Nat.le_of_ble_eq_true rfl⟩ hl.1 rfl (Nat.le_of_ble_eq_true rfl) d12_rounds_2 (fun H locs hH => ?_)
  refine W.eq (g2 := F0 m 5 ls [.int o2.1]) rfl ?_
  refine lv_istore_n (lv' := [(2, .int o2.1), (0, .ref (ad 68)), (1, .int x1)]) hx hb d12_rounds_5 rfl hl (by decide) rfl (fun ls hl => ?_)
  refine lv_iload_n hx hb d12_rounds_6 rfl (lv_at hl 0 rfl) ?_
  refine lv_if_ge (tgt := 14) hx hb d12_rounds_7 (by decide) (fun hc7 => ?_) (fun hc7 => ?_)
  · have e := ce_if1 e hc7
    refine lv_aload_n hx hb d12_rounds_14 rfl (lv_at hl 1 rfl) ?_
    refine gf_12_50 C hH d12_rounds_15 ?_
    refine lv_aload_n hx hb d12_rounds_18 rfl (lv_at hl 1 rfl) ?_
    refine lv_iload_n hx hb d12_rounds_19 rfl (lv_at hl 2 rfl) ?_
    obtain ⟨o20, eo20, e⟩ := ce_bd e
    refine ce_callV (As := [.int x1]) (rest := [.ref (ad 81)]) C (ce_sok aK aV B0) hH (c12_rootOf l D ad cA aK aV B0 C.2.2.2.2.2.2.1 F x1  o2.2 o20 eo20) lo_68.1 lo_68.2.choose_spec rfl rfl mc12_rootOf ml_12_270 mi12_rootOf ms12_rootOf mI_12 (n := 1) (by decide) rfl ⟨Nat.le_of_ble_eq_true rfl, Nat.le_of_ble_eq_true rfl⟩ ⟨Nat.le_of_ble_eq_true rfl, Nat.le_of_ble_eq_true rfl⟩ hl.1 rfl (Nat.le_of_ble_eq_true rfl) d12_rounds_20 (fun H locs hH => ?_)
    refine W.eq (g2 := F0 m 23 ls [.int o20.1, .ref (ad 81)]) rfl ?_
    obtain ⟨hi23, e⟩ := ce_gd e
    refine ce_iald C hH lc_81.1 lc_81.2 (ce_in_vp hi23) d12_rounds_23 ?_
    exact ce_iretE C (ce_sok aK aV B0) hH e d12_rounds_24
  · have e := ce_if0 e hc7
    refine lv_iload_n hx hb d12_rounds_10 rfl (lv_at hl 0 rfl) ?_
    refine lv_goto (tgt := 24) hx hb d12_rounds_11 (by decide) ?_
    exact ce_iretE C (ce_sok aK aV B0) hH e d12_rounds_24
abbrev b12_taken : ByteArray := prog_14_method_50_code
def y12_taken : MethodName := ⟨cn_12, "taken", "(I)I"⟩
theorem d12_taken_0 : decode b12_taken 0 = .ok (.aload_n 0, 1) := by decide +kernel
theorem d12_taken_1 : decode b12_taken 1 = .ok (.iload_n 1, 1) := by decide +kernel
theorem d12_taken_2 : decode b12_taken 2 = .ok (.invokevirtual 220, 3) := by decide +kernel
theorem d12_taken_5 : decode b12_taken 5 = .ok (.ifCond .ne 6, 3) := by decide +kernel
theorem d12_taken_8 : decode b12_taken 8 = .ok (.bipush (-2), 2) := by decide +kernel
theorem d12_taken_10 : decode b12_taken 10 = .ok (.ireturn, 1) := by decide +kernel
theorem d12_taken_11 : decode b12_taken 11 = .ok (.aload_n 0, 1) := by decide +kernel
theorem d12_taken_12 : decode b12_taken 12 = .ok (.invokevirtual 256, 3) := by decide +kernel
theorem d12_taken_15 : decode b12_taken 15 = .ok (.aload_n 0, 1) := by decide +kernel
theorem d12_taken_16 : decode b12_taken 16 = .ok (.getfield 50, 3) := by decide +kernel
theorem d12_taken_19 : decode b12_taken 19 = .ok (.iload_n 1, 1) := by decide +kernel
theorem d12_taken_20 : decode b12_taken 20 = .ok (.iaload, 1) := by decide +kernel
theorem d12_taken_21 : decode b12_taken 21 = .ok (.ireturn, 1) := by decide +kernel
def f12_taken (F : Nat) (x1 : Int32) (h : Hp) : Option (Int32 × Hp) :=
  Option.bind (f12_isNode F x1 h) (fun o2 =>
    if o2.1 = 0 then
      some ((-2 : Int32), o2.2)
    else
      Option.bind (f12_runs F  o2.2) (fun o12 =>
        if ce_in x1 10 = true then
          some (o12 81 (x1).toNatClampNeg, o12)
        else none))
set_option maxRecDepth 20000 in
theorem c12_taken (l : Launch) (D : va_G) (ad : Nat → Nat) (cA : Nat → ClassId) (aK aV : Nat → Nat) (B0 : Nat) (hA : ce_Ad ad B0) (F : Nat) (x1 : Int32)  (h : Hp) (r : Int32 × Hp) (e : f12_taken F x1 h = some r) : ce_Ct l D ad cA B0 (ce_St aK aV B0) y12_taken b12_taken 2 (some .int) 3 74 0 0 [.ref (ad 68), .int x1] h (some (.int r.1)) r.2 := by
  refine ce_enter hA (by decide) rfl (Nat.le_of_ble_eq_true rfl) (fun p e0 s m below meth c ls C hH hl => ?_)
  have hl : lv_has ls 2 [(0, .ref (ad 68)), (1, .int x1)] := hl
  have hx := C.1
  have hb := C.2.1
  have e : Option.bind _ some = some r := (congrArg (fun z => Option.bind z some) e).trans rfl
  unfold f12_taken at e
  refine lv_aload_n hx hb d12_taken_0 rfl (lv_at hl 0 rfl) ?_
  refine lv_iload_n hx hb d12_taken_1 rfl (lv_at hl 1 rfl) ?_
  obtain ⟨o2, eo2, e⟩ := ce_bd e
  refine ce_callV (As := [.int x1]) (rest := []) C (ce_sok aK aV B0) hH (c12_isNode l D ad cA aK aV B0 C.2.2.2.2.2.2.1 F x1  h o2 eo2) lo_68.1 lo_68.2.choose_spec rfl rfl mc12_isNode ml_12_220 mi12_isNode ms12_isNode mI_12 (n := 1) (by decide) rfl ⟨Nat.le_of_ble_eq_true rfl, Nat.le_of_ble_eq_true rfl⟩ ⟨Nat.le_of_ble_eq_true rfl, Nat.le_of_ble_eq_true rfl⟩ hl.1 rfl (Nat.le_of_ble_eq_true rfl) d12_taken_2 (fun H locs hH => ?_)
  refine W.eq (g2 := F0 m 5 ls [.int o2.1]) rfl ?_
  refine lv_if_ne (tgt := 11) hx hb d12_taken_5 (by decide) (fun hc5 => ?_) (fun hc5 => ?_)
  · have e := ce_if0 e hc5
    refine lv_aload_n hx hb d12_taken_11 rfl (lv_at hl 0 rfl) ?_
    obtain ⟨o12, eo12, e⟩ := ce_bd e
    refine ce_callV (As := []) (rest := []) C (ce_sok aK aV B0) hH (c12_runs l D ad cA aK aV B0 C.2.2.2.2.2.2.1 F   o2.2 o12 eo12) lo_68.1 lo_68.2.choose_spec rfl rfl mc12_runs ml_12_256 mi12_runs ms12_runs mI_12 (n := 0) (by decide) rfl ⟨Nat.le_of_ble_eq_true rfl, Nat.le_of_ble_eq_true rfl⟩ ⟨Nat.le_of_ble_eq_true rfl, Nat.le_of_ble_eq_true rfl⟩ hl.1 rfl (Nat.le_of_ble_eq_true rfl) d12_taken_12 (fun H locs hH => ?_)
    refine W.eq (g2 := F0 m 15 ls []) rfl ?_
    refine lv_aload_n hx hb d12_taken_15 rfl (lv_at hl 0 rfl) ?_
    refine gf_12_50 C hH d12_taken_16 ?_
    refine lv_iload_n hx hb d12_taken_19 rfl (lv_at hl 1 rfl) ?_
    obtain ⟨hi20, e⟩ := ce_gd e
    refine ce_iald C hH lc_81.1 lc_81.2 (ce_in_vp hi20) d12_taken_20 ?_
    exact ce_iretE C (ce_sok aK aV B0) hH e d12_taken_21
  · have e := ce_if1 e hc5
    refine lv_bipush (v := (-2 : Int32)) hx hb d12_taken_8 (by decide) ?_
    exact ce_iretE C (ce_sok aK aV B0) hH e d12_taken_10
abbrev b12_handsOn : ByteArray := prog_14_method_51_code
def y12_handsOn : MethodName := ⟨cn_12, "handsOn", "(I)V"⟩
theorem d12_handsOn_0 : decode b12_handsOn 0 = .ok (.iconst 4, 1) := by decide +kernel
theorem d12_handsOn_1 : decode b12_handsOn 1 = .ok (.iload_n 1, 1) := by decide +kernel
theorem d12_handsOn_2 : decode b12_handsOn 2 = .ok (.imul, 1) := by decide +kernel
theorem d12_handsOn_3 : decode b12_handsOn 3 = .ok (.istore_n 2, 1) := by decide +kernel
theorem d12_handsOn_4 : decode b12_handsOn 4 = .ok (.iload_n 2, 1) := by decide +kernel
theorem d12_handsOn_5 : decode b12_handsOn 5 = .ok (.iconst 4, 1) := by decide +kernel
theorem d12_handsOn_6 : decode b12_handsOn 6 = .ok (.iload_n 1, 1) := by decide +kernel
theorem d12_handsOn_7 : decode b12_handsOn 7 = .ok (.imul, 1) := by decide +kernel
theorem d12_handsOn_8 : decode b12_handsOn 8 = .ok (.iconst 4, 1) := by decide +kernel
theorem d12_handsOn_9 : decode b12_handsOn 9 = .ok (.iadd, 1) := by decide +kernel
theorem d12_handsOn_10 : decode b12_handsOn 10 = .ok (.if_icmp .ge 28, 3) := by decide +kernel
theorem d12_handsOn_13 : decode b12_handsOn 13 = .ok (.aload_n 0, 1) := by decide +kernel
theorem d12_handsOn_14 : decode b12_handsOn 14 = .ok (.iload_n 2, 1) := by decide +kernel
theorem d12_handsOn_15 : decode b12_handsOn 15 = .ok (.invokevirtual 264, 3) := by decide +kernel
theorem d12_handsOn_18 : decode b12_handsOn 18 = .ok (.ifCond .eq 14, 3) := by decide +kernel
theorem d12_handsOn_21 : decode b12_handsOn 21 = .ok (.aload_n 0, 1) := by decide +kernel
theorem d12_handsOn_22 : decode b12_handsOn 22 = .ok (.aload_n 0, 1) := by decide +kernel
theorem d12_handsOn_23 : decode b12_handsOn 23 = .ok (.iload_n 2, 1) := by decide +kernel
theorem d12_handsOn_24 : decode b12_handsOn 24 = .ok (.invokevirtual 224, 3) := by decide +kernel
theorem d12_handsOn_27 : decode b12_handsOn 27 = .ok (.iconst 4, 1) := by decide +kernel
theorem d12_handsOn_28 : decode b12_handsOn 28 = .ok (.idiv, 1) := by decide +kernel
theorem d12_handsOn_29 : decode b12_handsOn 29 = .ok (.invokevirtual 273, 3) := by decide +kernel
theorem d12_handsOn_32 : decode b12_handsOn 32 = .ok (.iinc 2 1, 3) := by decide +kernel
theorem d12_handsOn_35 : decode b12_handsOn 35 = .ok (.goto (-31), 3) := by decide +kernel
theorem d12_handsOn_38 : decode b12_handsOn 38 = .ok (.aload_n 0, 1) := by decide +kernel
theorem d12_handsOn_39 : decode b12_handsOn 39 = .ok (.getfield 56, 3) := by decide +kernel
theorem d12_handsOn_42 : decode b12_handsOn 42 = .ok (.iload_n 1, 1) := by decide +kernel
theorem d12_handsOn_43 : decode b12_handsOn 43 = .ok (.aload_n 0, 1) := by decide +kernel
theorem d12_handsOn_44 : decode b12_handsOn 44 = .ok (.getfield 276, 3) := by decide +kernel
theorem d12_handsOn_47 : decode b12_handsOn 47 = .ok (.iastore, 1) := by decide +kernel
theorem d12_handsOn_48 : decode b12_handsOn 48 = .ok (.aload_n 0, 1) := by decide +kernel
theorem d12_handsOn_49 : decode b12_handsOn 49 = .ok (.dup, 1) := by decide +kernel
theorem d12_handsOn_50 : decode b12_handsOn 50 = .ok (.getfield 276, 3) := by decide +kernel
theorem d12_handsOn_53 : decode b12_handsOn 53 = .ok (.iconst 1, 1) := by decide +kernel
theorem d12_handsOn_54 : decode b12_handsOn 54 = .ok (.iadd, 1) := by decide +kernel
theorem d12_handsOn_55 : decode b12_handsOn 55 = .ok (.putfield 276, 3) := by decide +kernel
theorem d12_handsOn_58 : decode b12_handsOn 58 = .ok (.return_, 1) := by decide +kernel
theorem mc12_handsOn : Cond.code y12_handsOn b12_handsOn 3 none ∈ ce_cm := ce_cm_of (List.mem_of_getElem? (i := 1457) (by decide +kernel)) (by decide +kernel)
theorem ml_12_273 : Cond.methodLink cn_12 273 y12_handsOn ∈ ce_cm := ce_cm_of (List.mem_of_getElem? (i := 1454) (by decide +kernel)) (by decide +kernel)
theorem mi12_handsOn : Cond.instanceMethod y12_handsOn ∈ ce_cm := ce_cm_of (List.mem_of_getElem? (i := 1456) (by decide +kernel)) (by decide +kernel)
theorem ms12_handsOn : Cond.selects cn_12 y12_handsOn y12_handsOn ∈ ce_cm := ce_cm_of (List.mem_of_getElem? (i := 64) (by decide +kernel)) (by decide +kernel)
theorem fl_12_56 : Cond.fieldLink cn_12 56 (ft_12 23).1 (ft_12 23).2.1 (ft_12 23).2.2.1 ∈ ce_cm := ce_cm_of (List.mem_of_getElem? (i := 1144) (by decide +kernel)) (by decide +kernel)
theorem gf_12_56 (C : ce_Cx p s m args c meth cc nL ret cn_12 D ad cA B0 (ce_St aK aV B0)) (hH : ce_H D ad cA B0 X s h H locs) (hdg : decode cc pc = .ok (.getfield 56, 3)) (kk : W p l e0 R s m args below meth c H locs cells slots Q (F0 m (pc + 3) ls (.ref (ad 83) :: rest))) : W p l e0 R s m args below meth c H locs cells slots Q (F0 m pc ls (.ref (ad 68) :: rest)) := by
  exact ce_get C hH (k := 68) (ci := 12) (j := 23) (N := 43) (sj := some (some 83)) (by decide) rfl rfl fw_12 (by decide) fl_12_56 rfl hdg kk
theorem fl_12_276 : Cond.fieldLink cn_12 276 (ft_12 24).1 (ft_12 24).2.1 (ft_12 24).2.2.1 ∈ ce_cm := ce_cm_of (List.mem_of_getElem? (i := 1145) (by decide +kernel)) (by decide +kernel)
theorem gf_12_276 (C : ce_Cx p s m args c meth cc nL ret cn_12 D ad cA B0 (ce_St aK aV B0)) (hH : ce_H D ad cA B0 X s h H locs) (hdg : decode cc pc = .ok (.getfield 276, 3)) (kk : W p l e0 R s m args below meth c H locs cells slots Q (F0 m (pc + 3) ls (.int (h 68 24) :: rest))) : W p l e0 R s m args below meth c H locs cells slots Q (F0 m pc ls (.ref (ad 68) :: rest)) := by
  exact ce_get C hH (k := 68) (ci := 12) (j := 24) (N := 43) (sj := none) (by decide) rfl rfl fw_12 (by decide) fl_12_276 rfl hdg kk
theorem pf_12_276 (C : ce_Cx p s m args c meth cc nL ret cn_12 D ad cA B0 (ce_St aK aV B0)) (hH : ce_H D ad cA B0 X s h H locs) {x : Int32} (hdg : decode cc pc = .ok (.putfield 276, 3)) (kk : ∀ (H1 : Heap) (locs1 : List Loc), ce_H D ad cA B0 X s (hp_up h 68 24 x) H1 locs1 → W p l e0 R s m args below meth c H1 locs1 cells slots Q (F0 m (pc + 3) ls rest)) : W p l e0 R s m args below meth c H locs cells slots Q (F0 m pc ls (.int x :: .ref (ad 68) :: rest)) := by
  exact ce_put C hH (k := 68) (ci := 12) (j := 24) (N := 43) (fy := fy_12) (sj := none) x (by decide) rfl rfl fw_12 fo_12 fn_12 (by decide) fl_12_276 rfl rfl (v := .int x) (by simp [ce_slot, upd]) rfl rfl hdg kk
theorem lc_83 : 83 < 96 ∧ ce_lay 83 = .inl (0, 10) := ⟨by decide, rfl⟩
def f12_handsOn_b4 (F : Nat) (rc : Int32 → Hp → Option (Hp)) (x1 : Int32) (x2 : Int32) (h : Hp) : Option ((Int32 × Hp) ⊕ (Hp)) :=
  if (((4 : Int32) * x1) + (4 : Int32)) ≤ x2 then
    some (.inr h)
  else
    Option.bind (f12_isChild F x2 h) (fun o15 =>
      if o15.1 = 0 then
        some (.inl (x2 + (1 : Int32), o15.2))
      else
        Option.bind (f12_otherOf F x2 o15.2) (fun o24 =>
          Option.bind (rc (o24.1 / (4 : Int32)) o24.2) (fun o29 =>
            some (.inl (x2 + (1 : Int32), o29)))))
set_option maxRecDepth 20000 in
theorem l12_handsOn_4 (C : ce_Cx p s m args c meth b12_handsOn 3 none cn_12 D ad cA B0 (ce_St aK aV B0)) (d : Nat) (rc : Int32 → Hp → Option (Hp)) (hrc : ∀ (x1 : Int32)  (h : Hp) (r : Hp), rc x1 h = some r → ce_Ct l D ad cA B0 (ce_St aK aV B0) y12_handsOn b12_handsOn 3 none (1 + d) (43 + d * 22) 0 0 [.ref (ad 68), .int x1] h none r) (F : Nat) (x1 : Int32)  (r : Hp) (g : (Hp) → Option (Hp)) (hx : ∀  (h : Hp) (H : Heap) (locs : List Loc) (ls : Array Slot), ce_H D ad cA B0 [] s h H locs → lv_has ls 3 [(0, .ref (ad 68)), (1, .int x1)] → g h = some r → W p l e0 { frames := 1 + (d + 1), cells := 0, slots := 0, locals := 43 + (d + 1) * 22 } s m args below meth c H locs 0 0 (MQ below (ce_Q D ad cA B0 (ce_St aK aV B0) none r) args s 0 0 (fun q => B0 ≤ q)) (F0 m 38 ls [])) : ∀ (n : Nat) (x2 : Int32) (h : Hp) (H : Heap) (locs : List Loc) (ls : Array Slot), ce_H D ad cA B0 [] s h H locs → lv_has ls 3 [(0, .ref (ad 68)), (1, .int x1), (2, .int x2)] → Option.bind (ce_it (fun (st : Int32 × Hp) => f12_handsOn_b4 F rc x1 st.1 st.2) n (x2, h)) g = some r → W p l e0 { frames := 1 + (d + 1), cells := 0, slots := 0, locals := 43 + (d + 1) * 22 } s m args below meth c H locs 0 0 (MQ below (ce_Q D ad cA B0 (ce_St aK aV B0) none r) args s 0 0 (fun q => B0 ≤ q)) (F0 m 4 ls []) := by
  intro n
  induction n with
  | zero =>
    intro x2 h H locs ls hH hl e
    exact absurd e (fun z => by cases z)
  | succ n ih =>
    intro x2 h H locs ls hH hl e
    have hx9 := C.1
    have hb := C.2.1
    have e : Option.bind (f12_handsOn_b4 F rc x1 x2 h) _ = some r := ce_it_bd e
    unfold f12_handsOn_b4 at e
    refine lv_iload_n hx9 hb d12_handsOn_4 rfl (lv_at hl 2 rfl) ?_
    refine lv_iconst (v := (4 : Int32)) hx9 hb d12_handsOn_5 (by decide) ?_
    refine lv_iload_n hx9 hb d12_handsOn_6 rfl (lv_at hl 1 rfl) ?_
    refine lv_imul hx9 hb d12_handsOn_7 ?_
    refine lv_iconst (v := (4 : Int32)) hx9 hb d12_handsOn_8 (by decide) ?_
    refine lv_iadd hx9 hb d12_handsOn_9 ?_
    refine lv_icmp_ge (tgt := 38) hx9 hb d12_handsOn_10 (by decide) (fun hc10 => ?_) (fun hc10 => ?_)
    · have e := ce_if1 e hc10
      exact hx  h _ _ _ hH (lv_sub hl [0, 1] rfl) e
    · have e := ce_if0 e hc10
      refine lv_aload_n hx9 hb d12_handsOn_13 rfl (lv_at hl 0 rfl) ?_
      refine lv_iload_n hx9 hb d12_handsOn_14 rfl (lv_at hl 2 rfl) ?_
      obtain ⟨o15, eo15, e⟩ := ce_bd e
      refine ce_callV (As := [.int x2]) (rest := []) C (ce_sok aK aV B0) hH (c12_isChild l D ad cA aK aV B0 C.2.2.2.2.2.2.1 F x2  h o15 eo15) lo_68.1 lo_68.2.choose_spec rfl rfl mc12_isChild ml_12_264 mi12_isChild ms12_isChild mI_12 (n := 1) (by decide) rfl ⟨show 1 + 1 ≤ 1 + (d + 1) by omega, show 8 + (3 + 11) + 21 ≤ 43 + (d + 1) * 22 by omega⟩ ⟨Nat.le_of_ble_eq_true rfl, Nat.le_of_ble_eq_true rfl⟩ hl.1 rfl (Nat.le_of_ble_eq_true rfl) d12_handsOn_15 (fun H locs hH => ?_)
      refine W.eq (g2 := F0 m 18 ls [.int o15.1]) rfl ?_
      refine lv_if_eq (tgt := 32) hx9 hb d12_handsOn_18 (by decide) (fun hc18 => ?_) (fun hc18 => ?_)
      · have e := ce_if1 e hc18
        refine lv_iinc (v := x2 + (1 : Int32)) (lv' := [(2, .int (x2 + (1 : Int32))), (0, .ref (ad 68)), (1, .int x1)]) hx9 hb d12_handsOn_32 hl (k := 2) rfl rfl (by decide) rfl (fun ls hl => ?_)
        refine lv_goto (tgt := 4) hx9 hb d12_handsOn_35 (by decide) ?_
        exact ih (x2 + (1 : Int32)) o15.2 _ _ _ hH (lv_sub hl [1, 2, 0] rfl) e
      · have e := ce_if0 e hc18
        refine lv_aload_n hx9 hb d12_handsOn_21 rfl (lv_at hl 0 rfl) ?_
        refine lv_aload_n hx9 hb d12_handsOn_22 rfl (lv_at hl 0 rfl) ?_
        refine lv_iload_n hx9 hb d12_handsOn_23 rfl (lv_at hl 2 rfl) ?_
        obtain ⟨o24, eo24, e⟩ := ce_bd e
        refine ce_callV (As := [.int x2]) (rest := [.ref (ad 68)]) C (ce_sok aK aV B0) hH (c12_otherOf l D ad cA aK aV B0 C.2.2.2.2.2.2.1 F x2  o15.2 o24 eo24) lo_68.1 lo_68.2.choose_spec rfl rfl mc12_otherOf ml_12_224 mi12_otherOf ms12_otherOf mI_12 (n := 1) (by decide) rfl ⟨show 0 + 1 ≤ 1 + (d + 1) by omega, show 8 + (2 + 11) + 0 ≤ 43 + (d + 1) * 22 by omega⟩ ⟨Nat.le_of_ble_eq_true rfl, Nat.le_of_ble_eq_true rfl⟩ hl.1 rfl (Nat.le_of_ble_eq_true rfl) d12_handsOn_24 (fun H locs hH => ?_)
        refine W.eq (g2 := F0 m 27 ls [.int o24.1, .ref (ad 68)]) rfl ?_
        refine lv_iconst (v := (4 : Int32)) hx9 hb d12_handsOn_27 (by decide) ?_
        refine lv_idiv hx9 hb d12_handsOn_28 (by decide) ?_
        obtain ⟨o29, eo29, e⟩ := ce_bd e
        refine ce_callV (As := [.int (o24.1 / (4 : Int32))]) (rest := []) C (ce_sok aK aV B0) hH (hrc (o24.1 / (4 : Int32))  o24.2 o29 eo29) lo_68.1 lo_68.2.choose_spec rfl rfl mc12_handsOn ml_12_273 mi12_handsOn ms12_handsOn mI_12 (n := 1) (by decide) rfl ⟨show 1 + d + 1 ≤ 1 + (d + 1) by omega, show 8 + (3 + 11) + (43 + d * 22) ≤ 43 + (d + 1) * 22 by omega⟩ ⟨Nat.le_of_ble_eq_true rfl, Nat.le_of_ble_eq_true rfl⟩ hl.1 rfl (Nat.le_of_ble_eq_true rfl) d12_handsOn_29 (fun H locs hH => ?_)
        refine W.eq (g2 := F0 m 32 ls []) rfl ?_
        refine lv_iinc (v := x2 + (1 : Int32)) (lv' := [(2, .int (x2 + (1 : Int32))), (0, .ref (ad 68)), (1, .int x1)]) hx9 hb d12_handsOn_32 hl (k := 2) rfl rfl (by decide) rfl (fun ls hl => ?_)
        refine lv_goto (tgt := 4) hx9 hb d12_handsOn_35 (by decide) ?_
        exact ih (x2 + (1 : Int32)) o29 _ _ _ hH (lv_sub hl [1, 2, 0] rfl) e
def f12_handsOn (F : Nat) : Nat → Int32 → Hp → Option (Hp)
  | 0, _, _ => none
  | d + 1, x1, h =>
    Option.bind (ce_it (fun (st : Int32 × Hp) => f12_handsOn_b4 F (f12_handsOn F d) x1 st.1 st.2) F ((4 : Int32) * x1, h)) (fun o4 =>
      if ce_in x1 10 = true then
        ce_nm (hp_up o4 83 (x1).toNatClampNeg (o4 68 24)) (fun h_47 =>
          ce_nm (hp_up h_47 68 24 ((h_47 68 24) + (1 : Int32))) (fun h_55 =>
            some h_55))
      else none)
set_option maxRecDepth 20000 in
theorem c12_handsOn (l : Launch) (D : va_G) (ad : Nat → Nat) (cA : Nat → ClassId) (aK aV : Nat → Nat) (B0 : Nat) (hA : ce_Ad ad B0) (F : Nat) : ∀ (d : Nat) (x1 : Int32)  (h : Hp) (r : Hp), f12_handsOn F d x1 h = some r → ce_Ct l D ad cA B0 (ce_St aK aV B0) y12_handsOn b12_handsOn 3 none (1 + d) (43 + d * 22) 0 0 [.ref (ad 68), .int x1] h none r := by
  intro d
  induction d with
  | zero =>
    intro x1  h r e
    exact absurd e (fun z => by cases z)
  | succ d ihd =>
    intro x1  h r e
    refine ce_enter hA (by decide) rfl (Nat.le_of_ble_eq_true rfl) (fun p e0 s m below meth c ls C hH hl => ?_)
    have hl : lv_has ls 3 [(0, .ref (ad 68)), (1, .int x1)] := hl
    have hx := C.1
    have hb := C.2.1
    obtain ⟨rc, erc⟩ : ∃ z, z = f12_handsOn F d := ⟨_, rfl⟩
    rw [← erc] at ihd
    have hrc := ihd
    have e : Option.bind _ some = some r := (congrArg (fun z => Option.bind z some) e).trans rfl
    unfold f12_handsOn at e
    rw [← erc] at e
    refine lv_iconst (v := (4 : Int32)) hx hb d12_handsOn_0 (by decide) ?_
    refine lv_iload_n hx hb d12_handsOn_1 rfl (lv_at hl 1 rfl) ?_
    refine lv_imul hx hb d12_handsOn_2 ?_
    refine lv_istore_n (lv' := [(2, .int ((4 : Int32) * x1)), (0, .ref (ad 68)), (1, .int x1)]) hx hb d12_handsOn_3 rfl hl (by decide) rfl (fun ls hl => ?_)
    refine l12_handsOn_4 C d rc hrc F x1  r _ (fun  h_4 H locs ls hH hl e => ?_) F ((4 : Int32) * x1) h _ _ _ hH (lv_sub hl [1, 2, 0] rfl) (ce_as e)
    try dsimp only at e
    refine lv_aload_n hx hb d12_handsOn_38 rfl (lv_at hl 0 rfl) ?_
    refine gf_12_56 C hH d12_handsOn_39 ?_
    refine lv_iload_n hx hb d12_handsOn_42 rfl (lv_at hl 1 rfl) ?_
    refine lv_aload_n hx hb d12_handsOn_43 rfl (lv_at hl 0 rfl) ?_
    refine gf_12_276 C hH d12_handsOn_44 ?_
    obtain ⟨hi47, e⟩ := ce_gd e
    refine ce_iast C hH lc_83.1 lc_83.2 (ce_in_vp hi47) d12_handsOn_47 (fun H locs hH => ?_)
    obtain ⟨h_47, eh_47, e⟩ := ce_nmE e
    rw [← eh_47] at hH
    refine lv_aload_n hx hb d12_handsOn_48 rfl (lv_at hl 0 rfl) ?_
    refine lv_dup hx hb d12_handsOn_49 rfl ?_
    refine gf_12_276 C hH d12_handsOn_50 ?_
    refine lv_iconst (v := (1 : Int32)) hx hb d12_handsOn_53 (by decide) ?_
    refine lv_iadd hx hb d12_handsOn_54 ?_
    refine pf_12_276 C hH d12_handsOn_55 (fun H locs hH => ?_)
    obtain ⟨h_55, eh_55, e⟩ := ce_nmE e
    rw [← eh_55] at hH
    exact ce_vret C (ce_sok aK aV B0) hH (Option.some.inj e) d12_handsOn_58
abbrev b12_laysIds : ByteArray := prog_14_method_52_code
def y12_laysIds : MethodName := ⟨cn_12, "laysIds", "(I)V"⟩
theorem d12_laysIds_0 : decode b12_laysIds 0 = .ok (.aload_n 0, 1) := by decide +kernel
theorem d12_laysIds_1 : decode b12_laysIds 1 = .ok (.iconst 0, 1) := by decide +kernel
theorem d12_laysIds_2 : decode b12_laysIds 2 = .ok (.putfield 276, 3) := by decide +kernel
theorem d12_laysIds_5 : decode b12_laysIds 5 = .ok (.aload_n 0, 1) := by decide +kernel
theorem d12_laysIds_6 : decode b12_laysIds 6 = .ok (.aload_n 0, 1) := by decide +kernel
theorem d12_laysIds_7 : decode b12_laysIds 7 = .ok (.iload_n 1, 1) := by decide +kernel
theorem d12_laysIds_8 : decode b12_laysIds 8 = .ok (.invokevirtual 270, 3) := by decide +kernel
theorem d12_laysIds_11 : decode b12_laysIds 11 = .ok (.invokevirtual 273, 3) := by decide +kernel
theorem d12_laysIds_14 : decode b12_laysIds 14 = .ok (.return_, 1) := by decide +kernel
def f12_laysIds (F : Nat) (x1 : Int32) (h : Hp) : Option (Hp) :=
  ce_nm (hp_up h 68 24 (0 : Int32)) (fun h_2 =>
    Option.bind (f12_rootOf F x1 h_2) (fun o8 =>
      Option.bind (f12_handsOn F 12 o8.1 o8.2) (fun o11 =>
        some o11)))
set_option maxRecDepth 20000 in
theorem c12_laysIds (l : Launch) (D : va_G) (ad : Nat → Nat) (cA : Nat → ClassId) (aK aV : Nat → Nat) (B0 : Nat) (hA : ce_Ad ad B0) (F : Nat) (x1 : Int32)  (h : Hp) (r : Hp) (e : f12_laysIds F x1 h = some r) : ce_Ct l D ad cA B0 (ce_St aK aV B0) y12_laysIds b12_laysIds 2 none 14 329 0 0 [.ref (ad 68), .int x1] h none r := by
  refine ce_enter hA (by decide) rfl (Nat.le_of_ble_eq_true rfl) (fun p e0 s m below meth c ls C hH hl => ?_)
  have hl : lv_has ls 2 [(0, .ref (ad 68)), (1, .int x1)] := hl
  have hx := C.1
  have hb := C.2.1
  have e : Option.bind _ some = some r := (congrArg (fun z => Option.bind z some) e).trans rfl
  unfold f12_laysIds at e
  refine lv_aload_n hx hb d12_laysIds_0 rfl (lv_at hl 0 rfl) ?_
  refine lv_iconst (v := (0 : Int32)) hx hb d12_laysIds_1 (by decide) ?_
  refine pf_12_276 C hH d12_laysIds_2 (fun H locs hH => ?_)
  obtain ⟨h_2, eh_2, e⟩ := ce_nmE e
  rw [← eh_2] at hH
  refine lv_aload_n hx hb d12_laysIds_5 rfl (lv_at hl 0 rfl) ?_
  refine lv_aload_n hx hb d12_laysIds_6 rfl (lv_at hl 0 rfl) ?_
  refine lv_iload_n hx hb d12_laysIds_7 rfl (lv_at hl 1 rfl) ?_
  obtain ⟨o8, eo8, e⟩ := ce_bd e
  refine ce_callV (As := [.int x1]) (rest := [.ref (ad 68)]) C (ce_sok aK aV B0) hH (c12_rootOf l D ad cA aK aV B0 C.2.2.2.2.2.2.1 F x1  h_2 o8 eo8) lo_68.1 lo_68.2.choose_spec rfl rfl mc12_rootOf ml_12_270 mi12_rootOf ms12_rootOf mI_12 (n := 1) (by decide) rfl ⟨Nat.le_of_ble_eq_true rfl, Nat.le_of_ble_eq_true rfl⟩ ⟨Nat.le_of_ble_eq_true rfl, Nat.le_of_ble_eq_true rfl⟩ hl.1 rfl (Nat.le_of_ble_eq_true rfl) d12_laysIds_8 (fun H locs hH => ?_)
  refine W.eq (g2 := F0 m 11 ls [.int o8.1, .ref (ad 68)]) rfl ?_
  obtain ⟨o11, eo11, e⟩ := ce_bd e
  refine ce_callV (As := [.int o8.1]) (rest := []) C (ce_sok aK aV B0) hH (c12_handsOn l D ad cA aK aV B0 C.2.2.2.2.2.2.1 F 12 o8.1  o8.2 o11 eo11) lo_68.1 lo_68.2.choose_spec rfl rfl mc12_handsOn ml_12_273 mi12_handsOn ms12_handsOn mI_12 (n := 1) (by decide) rfl ⟨Nat.le_of_ble_eq_true rfl, Nat.le_of_ble_eq_true rfl⟩ ⟨Nat.le_of_ble_eq_true rfl, Nat.le_of_ble_eq_true rfl⟩ hl.1 rfl (Nat.le_of_ble_eq_true rfl) d12_laysIds_11 (fun H locs hH => ?_)
  refine W.eq (g2 := F0 m 14 ls []) rfl ?_
  exact ce_vret C (ce_sok aK aV B0) hH (Option.some.inj e) d12_laysIds_14
abbrev b12_id : ByteArray := prog_14_method_53_code
def y12_id : MethodName := ⟨cn_12, "id", "(I)I"⟩
theorem d12_id_0 : decode b12_id 0 = .ok (.aload_n 0, 1) := by decide +kernel
theorem d12_id_1 : decode b12_id 1 = .ok (.iload_n 1, 1) := by decide +kernel
theorem d12_id_2 : decode b12_id 2 = .ok (.invokevirtual 267, 3) := by decide +kernel
theorem d12_id_5 : decode b12_id 5 = .ok (.istore_n 2, 1) := by decide +kernel
theorem d12_id_6 : decode b12_id 6 = .ok (.iload_n 2, 1) := by decide +kernel
theorem d12_id_7 : decode b12_id 7 = .ok (.ifCond .ge 5, 3) := by decide +kernel
theorem d12_id_10 : decode b12_id 10 = .ok (.iload_n 2, 1) := by decide +kernel
theorem d12_id_11 : decode b12_id 11 = .ok (.ireturn, 1) := by decide +kernel
theorem d12_id_12 : decode b12_id 12 = .ok (.aload_n 0, 1) := by decide +kernel
theorem d12_id_13 : decode b12_id 13 = .ok (.iload_n 1, 1) := by decide +kernel
theorem d12_id_14 : decode b12_id 14 = .ok (.invokevirtual 279, 3) := by decide +kernel
theorem d12_id_17 : decode b12_id 17 = .ok (.aload_n 0, 1) := by decide +kernel
theorem d12_id_18 : decode b12_id 18 = .ok (.getfield 56, 3) := by decide +kernel
theorem d12_id_21 : decode b12_id 21 = .ok (.iload_n 1, 1) := by decide +kernel
theorem d12_id_22 : decode b12_id 22 = .ok (.iaload, 1) := by decide +kernel
theorem d12_id_23 : decode b12_id 23 = .ok (.ireturn, 1) := by decide +kernel
theorem mc12_laysIds : Cond.code y12_laysIds b12_laysIds 2 none ∈ ce_cm := ce_cm_of (List.mem_of_getElem? (i := 1453) (by decide +kernel)) (by decide +kernel)
theorem ml_12_279 : Cond.methodLink cn_12 279 y12_laysIds ∈ ce_cm := ce_cm_of (List.mem_of_getElem? (i := 1450) (by decide +kernel)) (by decide +kernel)
theorem mi12_laysIds : Cond.instanceMethod y12_laysIds ∈ ce_cm := ce_cm_of (List.mem_of_getElem? (i := 1452) (by decide +kernel)) (by decide +kernel)
theorem ms12_laysIds : Cond.selects cn_12 y12_laysIds y12_laysIds ∈ ce_cm := ce_cm_of (List.mem_of_getElem? (i := 63) (by decide +kernel)) (by decide +kernel)
def f12_id (F : Nat) (x1 : Int32) (h : Hp) : Option (Int32 × Hp) :=
  Option.bind (f12_whyNot F x1 h) (fun o2 =>
    if 0 ≤ o2.1 then
      Option.bind (f12_laysIds F x1 o2.2) (fun o14 =>
        if ce_in x1 10 = true then
          some (o14 83 (x1).toNatClampNeg, o14)
        else none)
    else
      some (o2.1, o2.2))
set_option maxRecDepth 20000 in
theorem c12_id (l : Launch) (D : va_G) (ad : Nat → Nat) (cA : Nat → ClassId) (aK aV : Nat → Nat) (B0 : Nat) (hA : ce_Ad ad B0) (F : Nat) (x1 : Int32)  (h : Hp) (r : Int32 × Hp) (e : f12_id F x1 h = some r) : ce_Ct l D ad cA B0 (ce_St aK aV B0) y12_id b12_id 3 (some .int) 15 350 0 0 [.ref (ad 68), .int x1] h (some (.int r.1)) r.2 := by
  refine ce_enter hA (by decide) rfl (Nat.le_of_ble_eq_true rfl) (fun p e0 s m below meth c ls C hH hl => ?_)
  have hl : lv_has ls 3 [(0, .ref (ad 68)), (1, .int x1)] := hl
  have hx := C.1
  have hb := C.2.1
  have e : Option.bind _ some = some r := (congrArg (fun z => Option.bind z some) e).trans rfl
  unfold f12_id at e
  refine lv_aload_n hx hb d12_id_0 rfl (lv_at hl 0 rfl) ?_
  refine lv_iload_n hx hb d12_id_1 rfl (lv_at hl 1 rfl) ?_
  obtain ⟨o2, eo2, e⟩ := ce_bd e
  refine ce_callV (As := [.int x1]) (rest := []) C (ce_sok aK aV B0) hH (c12_whyNot l D ad cA aK aV B0 C.2.2.2.2.2.2.1 F x1  h o2 eo2) lo_68.1 lo_68.2.choose_spec rfl rfl mc12_whyNot ml_12_267 mi12_whyNot ms12_whyNot mI_12 (n := 1) (by decide) rfl ⟨Nat.le_of_ble_eq_true rfl, Nat.le_of_ble_eq_true rfl⟩ ⟨Nat.le_of_ble_eq_true rfl, Nat.le_of_ble_eq_true rfl⟩ hl.1 rfl (Nat.le_of_ble_eq_true rfl) d12_id_2 (fun H locs hH => ?_)
  refine W.eq (g2 := F0 m 5 ls [.int o2.1]) rfl ?_
  refine lv_istore_n (lv' := [(2, .int o2.1), (0, .ref (ad 68)), (1, .int x1)]) hx hb d12_id_5 rfl hl (by decide) rfl (fun ls hl => ?_)
  refine lv_iload_n hx hb d12_id_6 rfl (lv_at hl 0 rfl) ?_
  refine lv_if_ge (tgt := 12) hx hb d12_id_7 (by decide) (fun hc7 => ?_) (fun hc7 => ?_)
  · have e := ce_if1 e hc7
    refine lv_aload_n hx hb d12_id_12 rfl (lv_at hl 1 rfl) ?_
    refine lv_iload_n hx hb d12_id_13 rfl (lv_at hl 2 rfl) ?_
    obtain ⟨o14, eo14, e⟩ := ce_bd e
    refine ce_callV (As := [.int x1]) (rest := []) C (ce_sok aK aV B0) hH (c12_laysIds l D ad cA aK aV B0 C.2.2.2.2.2.2.1 F x1  o2.2 o14 eo14) lo_68.1 lo_68.2.choose_spec rfl rfl mc12_laysIds ml_12_279 mi12_laysIds ms12_laysIds mI_12 (n := 1) (by decide) rfl ⟨Nat.le_of_ble_eq_true rfl, Nat.le_of_ble_eq_true rfl⟩ ⟨Nat.le_of_ble_eq_true rfl, Nat.le_of_ble_eq_true rfl⟩ hl.1 rfl (Nat.le_of_ble_eq_true rfl) d12_id_14 (fun H locs hH => ?_)
    refine W.eq (g2 := F0 m 17 ls []) rfl ?_
    refine lv_aload_n hx hb d12_id_17 rfl (lv_at hl 1 rfl) ?_
    refine gf_12_56 C hH d12_id_18 ?_
    refine lv_iload_n hx hb d12_id_21 rfl (lv_at hl 2 rfl) ?_
    obtain ⟨hi22, e⟩ := ce_gd e
    refine ce_iald C hH lc_83.1 lc_83.2 (ce_in_vp hi22) d12_id_22 ?_
    exact ce_iretE C (ce_sok aK aV B0) hH e d12_id_23
  · have e := ce_if0 e hc7
    refine lv_iload_n hx hb d12_id_10 rfl (lv_at hl 0 rfl) ?_
    exact ce_iretE C (ce_sok aK aV B0) hH e d12_id_11
end C15
