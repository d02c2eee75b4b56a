-- CableElectionModel.feed
-- a row that a method makes for itself, behind the world
section CF
variable {p : Program} {l : Launch} {e : Env} {R : Room} {s : State} {m : MethodId} {args : Array Value} {below : List Frame} {meth : Method} {c : Code} {H : Heap} {locs : List Loc} {cells slots : Nat} {Q : State → Prop}
variable {cc : ByteArray} {pc nL : Nat} {ret : Option FieldType} {ls : Array Slot} {rest : List Value} {own : String} {D : va_G} {ad : Nat → Nat} {cA : Nat → ClassId} {B0 : Nat} {h : Hp} {St : State → Prop} {q N : Nat} {f : Nat → Int32}
theorem ce_wl96 (ad : Nat → Nat) (cA : Nat → ClassId) (h : Hp) (t : Nat × va_E) : (ce_wl ad cA h ++ [t])[96]? = some t := by
  rw [List.getElem?_append_right (by simp [ce_wl])]
  simp [ce_wl]
theorem ce_wl96s (ad : Nat → Nat) (cA : Nat → ClassId) (h : Hp) (t t' : Nat × va_E) : (ce_wl ad cA h ++ [t]).set 96 t' = ce_wl ad cA h ++ [t'] := by
  rw [List.set_append_right _ _ (by simp [ce_wl])]
  simp [ce_wl]
theorem ce_newt (C : ce_Cx p s m args c meth cc nL ret own D ad cA B0 St) (hH : ce_H D ad cA B0 [] s h H locs) {n : Int32} {N : Nat} (hn : ¬ n < 0) (hN : n.toNatClampNeg = N) (hbytes : N * componentBytes .int ≤ 536870912) (hcells : cells + 1 ≤ R.cells) (hslots : slots + N ≤ R.slots) (hdg : decode cc pc = .ok (.newarray .int, 2))
    (kk : ∀ (q : Nat) (H1 : Heap), ce_H D ad cA B0 [(q, .inl (cA 0, N, .inl (fun _ => 0)))] s h H1 locs → W p l e R s m args below meth c H1 locs (cells + 1) (slots + N) Q (F0 m (pc + 2) ls (.ref q :: rest))) : W p l e R s m args below meth c H locs cells slots Q (F0 m pc ls (.int n :: rest)) := by
  obtain ⟨hx, hb, hml, hown, hts, hK, hA, hB, -⟩ := C
  refine va_newa (D := D) (ty := .int) (atype := .int) (a0 := (N, .inl (fun _ => 0))) hx hb (hts _ mA_0) rfl hK hH.1 hH.2.1 hH.2.2 (fun q h => Nat.le_trans hB h) (fun c9 => by rw [vp_cell_i]; rfl) hn hN hbytes hcells hslots hdg (fun q c9 H1 k1 q1 q2 q3 => ?_)
  have e1 : s.vm.findClass ("[" ++ (FieldType.int).toString) = some c9 := (k1.2 3 (c9, .int) rfl).2
  have e2 : s.vm.findClass ("[" ++ (FieldType.int).toString) = some (cA 0) := (hK.2 0 (cA 0, .int) rfl).2
  have e3 : c9 = cA 0 := Option.some.inj (e1.symm.trans e2)
  subst e3
  rw [List.append_nil] at q1 q2
  exact kk q H1 ⟨q1, q2, q3⟩
theorem ce_tst (C : ce_Cx p s m args c meth cc nL ret own D ad cA B0 St) (hH : ce_H D ad cA B0 [(q, .inl (cA 0, N, .inl f))] s h H locs) {i x : Int32} (hin : vp_in i N) (hdg : decode cc pc = .ok (.iastore, 1))
    (kk : ∀ (H1 : Heap) (locs1 : List Loc), ce_H D ad cA B0 [(q, .inl (cA 0, N, .inl (upd f i.toNatClampNeg x)))] s h H1 locs1 → W p l e R s m args below meth c H1 locs1 cells slots Q (F0 m (pc + 1) ls rest)) : W p l e R s m args below meth c H locs cells slots Q (F0 m pc ls (.int x :: .int i :: .ref q :: rest)) := by
  obtain ⟨hx, hb, hml, hown, hts, hK, hA, hB, -⟩ := C
  refine va_iast (D := D) hx hb hK hH.1 hH.2.1 hH.2.2 96 0 (ce_wl96 ad cA h _) rfl hin hdg (fun H1 locs1 q1 q2 q3 => ?_)
  rw [ce_wl96s] at q1 q2
  exact kk H1 locs1 ⟨q1, q2, q3⟩
theorem ce_tld (C : ce_Cx p s m args c meth cc nL ret own D ad cA B0 St) (hH : ce_H D ad cA B0 [(q, .inl (cA 0, N, .inl f))] s h H locs) {i : Int32} (hin : vp_in i N) (hdg : decode cc pc = .ok (.iaload, 1))
    (kk : W p l e R s m args below meth c H locs cells slots Q (F0 m (pc + 1) ls (.int (f i.toNatClampNeg) :: rest))) : W p l e R s m args below meth c H locs cells slots Q (F0 m pc ls (.int i :: .ref q :: rest)) := by
  obtain ⟨hx, hb, hml, hown, hts, hK, hA, hB, -⟩ := C
  exact va_iald (D := D) hx hb hK hH.1 96 0 (ce_wl96 ad cA h _) rfl hin hdg kk
theorem ce_drop {X : va_W} (hH : ce_H D ad cA B0 X s h H locs) : ce_H D ad cA B0 [] s h H locs := by
  obtain ⟨hP, hD, hS⟩ := hH
  have key : ∀ (k : Nat) (x : Nat × va_E), (ce_wl ad cA h ++ [])[k]? = some x → (ce_wl ad cA h ++ X)[k]? = some x := by
    intro k x hx
    rw [List.append_nil] at hx
    rw [List.getElem?_append_left (List.getElem?_eq_some_iff.mp hx).1]
    exact hx
  exact ⟨fun k x hx => hP k x (key k x hx), ⟨fun i j a b ha hb hab => hD.1 i j a b (key i a ha) (key j b hb) hab, fun k x hx => hD.2 k x (key k x hx)⟩, hS⟩
end CF

section CFE
variable {p : Program} {l : Launch} {e0 : Env} {R : Room} {s : State} {m : MethodId} {args : Array Value} {below : List Frame} {meth : Method} {c : Code} {H : Heap} {locs : List Loc} {cells slots : Nat} {Q : State → Prop}
variable {cc : ByteArray} {pc nL : Nat} {ret : Option FieldType} {ls : Array Slot} {rest : List Value} {D : va_G} {ad : Nat → Nat} {cA : Nat → ClassId} {B0 : Nat} {X : va_W} {h : Hp} {aK aV : Nat → Nat}
abbrev b12_feed : ByteArray := prog_14_method_4_code
def y12_feed : MethodName := ⟨cn_12, "feed", "(IIIII)I"⟩
theorem d12_feed_0 : decode b12_feed 0 = .ok (.aload_n 0, 1) := by decide +kernel
theorem d12_feed_1 : decode b12_feed 1 = .ok (.getfield 95, 3) := by decide +kernel
theorem d12_feed_4 : decode b12_feed 4 = .ok (.sipush 680, 3) := by decide +kernel
theorem d12_feed_7 : decode b12_feed 7 = .ok (.if_icmp .le 5, 3) := by decide +kernel
theorem d12_feed_10 : decode b12_feed 10 = .ok (.iconst (-1), 1) := by decide +kernel
theorem d12_feed_11 : decode b12_feed 11 = .ok (.ireturn, 1) := by decide +kernel
theorem d12_feed_12 : decode b12_feed 12 = .ok (.iconst 5, 1) := by decide +kernel
theorem d12_feed_13 : decode b12_feed 13 = .ok (.newarray .int, 2) := by decide +kernel
theorem d12_feed_15 : decode b12_feed 15 = .ok (.dup, 1) := by decide +kernel
theorem d12_feed_16 : decode b12_feed 16 = .ok (.iconst 0, 1) := by decide +kernel
theorem d12_feed_17 : decode b12_feed 17 = .ok (.iload_n 1, 1) := by decide +kernel
theorem d12_feed_18 : decode b12_feed 18 = .ok (.iastore, 1) := by decide +kernel
theorem d12_feed_19 : decode b12_feed 19 = .ok (.dup, 1) := by decide +kernel
theorem d12_feed_20 : decode b12_feed 20 = .ok (.iconst 1, 1) := by decide +kernel
theorem d12_feed_21 : decode b12_feed 21 = .ok (.iload_n 2, 1) := by decide +kernel
theorem d12_feed_22 : decode b12_feed 22 = .ok (.iastore, 1) := by decide +kernel
theorem d12_feed_23 : decode b12_feed 23 = .ok (.dup, 1) := by decide +kernel
theorem d12_feed_24 : decode b12_feed 24 = .ok (.iconst 2, 1) := by decide +kernel
theorem d12_feed_25 : decode b12_feed 25 = .ok (.iload_n 3, 1) := by decide +kernel
theorem d12_feed_26 : decode b12_feed 26 = .ok (.iastore, 1) := by decide +kernel
theorem d12_feed_27 : decode b12_feed 27 = .ok (.dup, 1) := by decide +kernel
theorem d12_feed_28 : decode b12_feed 28 = .ok (.iconst 3, 1) := by decide +kernel
theorem d12_feed_29 : decode b12_feed 29 = .ok (.iload 4, 2) := by decide +kernel
theorem d12_feed_31 : decode b12_feed 31 = .ok (.iastore, 1) := by decide +kernel
theorem d12_feed_32 : decode b12_feed 32 = .ok (.dup, 1) := by decide +kernel
theorem d12_feed_33 : decode b12_feed 33 = .ok (.iconst 4, 1) := by decide +kernel
theorem d12_feed_34 : decode b12_feed 34 = .ok (.iload 5, 2) := by decide +kernel
theorem d12_feed_36 : decode b12_feed 36 = .ok (.iastore, 1) := by decide +kernel
theorem d12_feed_37 : decode b12_feed 37 = .ok (.astore 6, 2) := by decide +kernel
theorem d12_feed_39 : decode b12_feed 39 = .ok (.iconst 0, 1) := by decide +kernel
theorem d12_feed_40 : decode b12_feed 40 = .ok (.istore 7, 2) := by decide +kernel
theorem d12_feed_42 : decode b12_feed 42 = .ok (.iload 7, 2) := by decide +kernel
theorem d12_feed_44 : decode b12_feed 44 = .ok (.bipush 20, 2) := by decide +kernel
theorem d12_feed_46 : decode b12_feed 46 = .ok (.if_icmp .ge 43, 3) := by decide +kernel
theorem d12_feed_49 : decode b12_feed 49 = .ok (.aload_n 0, 1) := by decide +kernel
theorem d12_feed_50 : decode b12_feed 50 = .ok (.getfield 19, 3) := by decide +kernel
theorem d12_feed_53 : decode b12_feed 53 = .ok (.aload_n 0, 1) := by decide +kernel
theorem d12_feed_54 : decode b12_feed 54 = .ok (.getfield 95, 3) := by decide +kernel
theorem d12_feed_57 : decode b12_feed 57 = .ok (.iload 7, 2) := by decide +kernel
theorem d12_feed_59 : decode b12_feed 59 = .ok (.iadd, 1) := by decide +kernel
theorem d12_feed_60 : decode b12_feed 60 = .ok (.aload 6, 2) := by decide +kernel
theorem d12_feed_62 : decode b12_feed 62 = .ok (.iload 7, 2) := by decide +kernel
theorem d12_feed_64 : decode b12_feed 64 = .ok (.iconst 4, 1) := by decide +kernel
theorem d12_feed_65 : decode b12_feed 65 = .ok (.idiv, 1) := by decide +kernel
theorem d12_feed_66 : decode b12_feed 66 = .ok (.iaload, 1) := by decide +kernel
theorem d12_feed_67 : decode b12_feed 67 = .ok (.bipush 24, 2) := by decide +kernel
theorem d12_feed_69 : decode b12_feed 69 = .ok (.bipush 8, 2) := by decide +kernel
theorem d12_feed_71 : decode b12_feed 71 = .ok (.iload 7, 2) := by decide +kernel
theorem d12_feed_73 : decode b12_feed 73 = .ok (.iconst 4, 1) := by decide +kernel
theorem d12_feed_74 : decode b12_feed 74 = .ok (.irem, 1) := by decide +kernel
theorem d12_feed_75 : decode b12_feed 75 = .ok (.imul, 1) := by decide +kernel
theorem d12_feed_76 : decode b12_feed 76 = .ok (.isub, 1) := by decide +kernel
theorem d12_feed_77 : decode b12_feed 77 = .ok (.iushr, 1) := by decide +kernel
theorem d12_feed_78 : decode b12_feed 78 = .ok (.sipush 255, 3) := by decide +kernel
theorem d12_feed_81 : decode b12_feed 81 = .ok (.iand, 1) := by decide +kernel
theorem d12_feed_82 : decode b12_feed 82 = .ok (.iastore, 1) := by decide +kernel
theorem d12_feed_83 : decode b12_feed 83 = .ok (.iinc 7 1, 3) := by decide +kernel
theorem d12_feed_86 : decode b12_feed 86 = .ok (.goto (-44), 3) := by decide +kernel
theorem d12_feed_89 : decode b12_feed 89 = .ok (.aload_n 0, 1) := by decide +kernel
theorem d12_feed_90 : decode b12_feed 90 = .ok (.dup, 1) := by decide +kernel
theorem d12_feed_91 : decode b12_feed 91 = .ok (.getfield 95, 3) := by decide +kernel
theorem d12_feed_94 : decode b12_feed 94 = .ok (.bipush 20, 2) := by decide +kernel
theorem d12_feed_96 : decode b12_feed 96 = .ok (.iadd, 1) := by decide +kernel
theorem d12_feed_97 : decode b12_feed 97 = .ok (.putfield 95, 3) := by decide +kernel
theorem d12_feed_100 : decode b12_feed 100 = .ok (.aload_n 0, 1) := by decide +kernel
theorem d12_feed_101 : decode b12_feed 101 = .ok (.getfield 95, 3) := by decide +kernel
theorem d12_feed_104 : decode b12_feed 104 = .ok (.ireturn, 1) := by decide +kernel
def f12_feed_b42 (F : Nat) (fv : (Nat → Int32)) (x7 : Int32) (h : Hp) : Option ((Int32 × Hp) ⊕ (Hp)) :=
  if (20 : Int32) ≤ x7 then
    some (.inr h)
  else
    if ce_in (x7 / (4 : Int32)) 5 = true then
      if ce_in ((h 68 4) + x7) 700 = true then
        ce_nm (hp_up h 72 (((h 68 4) + x7)).toNatClampNeg ((ce_ushr (fv ((x7 / (4 : Int32))).toNatClampNeg) ((24 : Int32) - ((8 : Int32) * (x7 - x7 / (4 : Int32) * (4 : Int32))))) &&& (255 : Int32))) (fun h_82 =>
          some (.inl (x7 + (1 : Int32), h_82)))
      else none
    else none
set_option maxRecDepth 20000 in
theorem l12_feed_42 (C : ce_Cx p s m args c meth b12_feed 8 (some .int) cn_12 D ad cA B0 (ce_St aK aV B0)) (q : Nat) (F : Nat) (fv : (Nat → Int32))  (r : Int32 × Hp) (g : (Hp) → Option (Int32 × Hp)) (hx : ∀  (h : Hp) (H : Heap) (locs : List Loc) (ls : Array Slot), ce_H D ad cA B0 [(q, .inl (cA 0, 5, .inl fv))] s h H locs → lv_has ls 8 [(0, .ref (ad 68))] → g h = some r → W p l e0 { frames := 0, cells := 1, slots := 5, locals := 0 } s m args below meth c H locs 1 5 (MQ below (ce_Q D ad cA B0 (ce_St aK aV B0) (some (.int r.1)) r.2) args s 1 5 (fun q => B0 ≤ q)) (F0 m 89 ls [])) : ∀ (n : Nat) (x7 : Int32) (h : Hp) (H : Heap) (locs : List Loc) (ls : Array Slot), ce_H D ad cA B0 [(q, .inl (cA 0, 5, .inl fv))] s h H locs → lv_has ls 8 [(0, .ref (ad 68)), (6, .ref q), (7, .int x7)] → Option.bind (ce_it (fun (st : Int32 × Hp) => f12_feed_b42 F fv st.1 st.2) n (x7, h)) g = some r → W p l e0 { frames := 0, cells := 1, slots := 5, locals := 0 } s m args below meth c H locs 1 5 (MQ below (ce_Q D ad cA B0 (ce_St aK aV B0) (some (.int r.1)) r.2) args s 1 5 (fun q => B0 ≤ q)) (F0 m 42 ls []) := by
  intro n
  induction n with
  | zero =>
    intro x7 h H locs ls hH hl e
    exact absurd e (fun z => by cases z)
  | succ n ih =>
    intro x7 h H locs ls hH hl e
    have hx9 := C.1
    have hb := C.2.1
    have e : Option.bind (f12_feed_b42 F fv x7 h) _ = some r := ce_it_bd e
    unfold f12_feed_b42 at e
    refine lv_iload hx9 hb d12_feed_42 (lv_at hl 2 rfl) ?_
    refine lv_bipush (v := (20 : Int32)) hx9 hb d12_feed_44 (by decide) ?_
    refine lv_icmp_ge (tgt := 89) hx9 hb d12_feed_46 (by decide) (fun hc46 => ?_) (fun hc46 => ?_)
    · have e := ce_if1 e hc46
      exact hx  h _ _ _ hH (lv_sub hl [0] rfl) e
    · have e := ce_if0 e hc46
      refine lv_aload_n hx9 hb d12_feed_49 rfl (lv_at hl 0 rfl) ?_
      refine gf_12_19 C hH d12_feed_50 ?_
      refine lv_aload_n hx9 hb d12_feed_53 rfl (lv_at hl 0 rfl) ?_
      refine gf_12_95 C hH d12_feed_54 ?_
      refine lv_iload hx9 hb d12_feed_57 (lv_at hl 2 rfl) ?_
      refine lv_iadd hx9 hb d12_feed_59 ?_
      refine lv_aload hx9 hb d12_feed_60 (lv_at hl 1 rfl) ?_
      refine lv_iload hx9 hb d12_feed_62 (lv_at hl 2 rfl) ?_
      refine lv_iconst (v := (4 : Int32)) hx9 hb d12_feed_64 (by decide) ?_
      refine lv_idiv hx9 hb d12_feed_65 (by decide) ?_
      obtain ⟨hi66, e⟩ := ce_gd e
      refine ce_tld C hH (ce_in_vp hi66) d12_feed_66 ?_
      refine lv_bipush (v := (24 : Int32)) hx9 hb d12_feed_67 (by decide) ?_
      refine lv_bipush (v := (8 : Int32)) hx9 hb d12_feed_69 (by decide) ?_
      refine lv_iload hx9 hb d12_feed_71 (lv_at hl 2 rfl) ?_
      refine lv_iconst (v := (4 : Int32)) hx9 hb d12_feed_73 (by decide) ?_
      refine lv_irem hx9 hb d12_feed_74 (by decide) ?_
      refine lv_imul hx9 hb d12_feed_75 ?_
      refine lv_isub hx9 hb d12_feed_76 ?_
      refine lv_iushr (v := ce_ushr (fv ((x7 / (4 : Int32))).toNatClampNeg) ((24 : Int32) - ((8 : Int32) * (x7 - x7 / (4 : Int32) * (4 : Int32))))) hx9 hb d12_feed_77 rfl ?_
      refine lv_sipush (v := (255 : Int32)) hx9 hb d12_feed_78 (by decide) ?_
      refine lv_iand hx9 hb d12_feed_81 ?_
      obtain ⟨hi82, e⟩ := ce_gd e
      refine ce_iast C hH lc_72.1 lc_72.2 (ce_in_vp hi82) d12_feed_82 (fun H locs hH => ?_)
      obtain ⟨h_82, eh_82, e⟩ := ce_nmE e
      rw [← eh_82] at hH
      refine lv_iinc (v := x7 + (1 : Int32)) (lv' := [(7, .int (x7 + (1 : Int32))), (0, .ref (ad 68)), (6, .ref q)]) hx9 hb d12_feed_83 hl (k := 2) rfl rfl (by decide) rfl (fun ls hl => ?_)
      refine lv_goto (tgt := 42) hx9 hb d12_feed_86 (by decide) ?_
      exact ih (x7 + (1 : Int32)) h_82 _ _ _ hH (lv_sub hl [1, 2, 0] rfl) e
def f12_feed (F : Nat) (x1 : Int32) (x2 : Int32) (x3 : Int32) (x4 : Int32) (x5 : Int32) (h : Hp) : Option (Int32 × Hp) :=
  if (h 68 4) ≤ (680 : Int32) then
    Option.bind (ce_it (fun (st : Int32 × Hp) => f12_feed_b42 F (upd (upd (upd (upd (upd (fun _ => 0) ((0 : Int32)).toNatClampNeg x1) ((1 : Int32)).toNatClampNeg x2) ((2 : Int32)).toNatClampNeg x3) ((3 : Int32)).toNatClampNeg x4) ((4 : Int32)).toNatClampNeg x5) st.1 st.2) F ((0 : Int32), h)) (fun o42 =>
      ce_nm (hp_up o42 68 4 ((o42 68 4) + (20 : Int32))) (fun h_97 =>
        some (h_97 68 4, h_97)))
  else
    some ((-1 : Int32), h)
set_option maxRecDepth 20000 in
theorem c12_feed (l : Launch) (D : va_G) (ad : Nat → Nat) (cA : Nat → ClassId) (aK aV : Nat → Nat) (B0 : Nat) (hA : ce_Ad ad B0) (F : Nat) (x1 : Int32) (x2 : Int32) (x3 : Int32) (x4 : Int32) (x5 : Int32)  (h : Hp) (r : Int32 × Hp) (e : f12_feed F x1 x2 x3 x4 x5 h = some r) : ce_Ct l D ad cA B0 (ce_St aK aV B0) y12_feed b12_feed 8 (some .int) 0 0 1 5 [.ref (ad 68), .int x1, .int x2, .int x3, .int x4, .int x5] h (some (.int r.1)) r.2 := by
  refine ce_enter hA (by decide) rfl (Nat.le_of_ble_eq_true rfl) (fun p e0 s m below meth c ls C hH hl => ?_)
  have hl : lv_has ls 8 [(0, .ref (ad 68)), (1, .int x1), (2, .int x2), (3, .int x3), (4, .int x4), (5, .int x5)] := hl
  have hx := C.1
  have hb := C.2.1
  have e : Option.bind _ some = some r := (congrArg (fun z => Option.bind z some) e).trans rfl
  unfold f12_feed at e
  refine lv_aload_n hx hb d12_feed_0 rfl (lv_at hl 0 rfl) ?_
  refine gf_12_95 C hH d12_feed_1 ?_
  refine lv_sipush (v := (680 : Int32)) hx hb d12_feed_4 (by decide) ?_
  refine lv_icmp_le (tgt := 12) hx hb d12_feed_7 (by decide) (fun hc7 => ?_) (fun hc7 => ?_)
  · have e := ce_if1 e hc7
    refine lv_iconst (v := (5 : Int32)) hx hb d12_feed_12 (by decide) ?_
    refine ce_newt C hH (N := 5) (by decide) (by decide) (by decide) (Nat.le_of_ble_eq_true rfl) (Nat.le_of_ble_eq_true rfl) d12_feed_13 (fun q H hH => ?_)
    refine lv_dup hx hb d12_feed_15 rfl ?_
    refine lv_iconst (v := (0 : Int32)) hx hb d12_feed_16 (by decide) ?_
    refine lv_iload_n hx hb d12_feed_17 rfl (lv_at hl 1 rfl) ?_
    refine ce_tst C hH (ce_in_vp (by decide)) d12_feed_18 (fun H locs hH => ?_)
    refine lv_dup hx hb d12_feed_19 rfl ?_
    refine lv_iconst (v := (1 : Int32)) hx hb d12_feed_20 (by decide) ?_
    refine lv_iload_n hx hb d12_feed_21 rfl (lv_at hl 2 rfl) ?_
    refine ce_tst C hH (ce_in_vp (by decide)) d12_feed_22 (fun H locs hH => ?_)
    refine lv_dup hx hb d12_feed_23 rfl ?_
    refine lv_iconst (v := (2 : Int32)) hx hb d12_feed_24 (by decide) ?_
    refine lv_iload_n hx hb d12_feed_25 rfl (lv_at hl 3 rfl) ?_
    refine ce_tst C hH (ce_in_vp (by decide)) d12_feed_26 (fun H locs hH => ?_)
    refine lv_dup hx hb d12_feed_27 rfl ?_
    refine lv_iconst (v := (3 : Int32)) hx hb d12_feed_28 (by decide) ?_
    refine lv_iload hx hb d12_feed_29 (lv_at hl 4 rfl) ?_
    refine ce_tst C hH (ce_in_vp (by decide)) d12_feed_31 (fun H locs hH => ?_)
    refine lv_dup hx hb d12_feed_32 rfl ?_
    refine lv_iconst (v := (4 : Int32)) hx hb d12_feed_33 (by decide) ?_
    refine lv_iload hx hb d12_feed_34 (lv_at hl 5 rfl) ?_
    refine ce_tst C hH (ce_in_vp (by decide)) d12_feed_36 (fun H locs hH => ?_)
    refine lv_astore (lv' := [(6, .ref q), (0, .ref (ad 68)), (1, .int x1), (2, .int x2), (3, .int x3), (4, .int x4), (5, .int x5)]) hx hb d12_feed_37 hl (by decide) rfl (fun ls hl => ?_)
    refine lv_iconst (v := (0 : Int32)) hx hb d12_feed_39 (by decide) ?_
    refine lv_istore (lv' := [(7, .int (0 : Int32)), (6, .ref q), (0, .ref (ad 68)), (1, .int x1), (2, .int x2), (3, .int x3), (4, .int x4), (5, .int x5)]) hx hb d12_feed_40 hl (by decide) rfl (fun ls hl => ?_)
    refine l12_feed_42 C q F (upd (upd (upd (upd (upd (fun _ => 0) ((0 : Int32)).toNatClampNeg x1) ((1 : Int32)).toNatClampNeg x2) ((2 : Int32)).toNatClampNeg x3) ((3 : Int32)).toNatClampNeg x4) ((4 : Int32)).toNatClampNeg x5)  r _ (fun  h_42 H locs ls hH hl e => ?_) F (0 : Int32) h _ _ _ hH (lv_sub hl [2, 1, 0] rfl) (ce_as e)
    try dsimp only at e
    refine lv_aload_n hx hb d12_feed_89 rfl (lv_at hl 0 rfl) ?_
    refine lv_dup hx hb d12_feed_90 rfl ?_
    refine gf_12_95 C hH d12_feed_91 ?_
    refine lv_bipush (v := (20 : Int32)) hx hb d12_feed_94 (by decide) ?_
    refine lv_iadd hx hb d12_feed_96 ?_
    refine pf_12_95 C hH d12_feed_97 (fun H locs hH => ?_)
    obtain ⟨h_97, eh_97, e⟩ := ce_nmE e
    rw [← eh_97] at hH
    refine lv_aload_n hx hb d12_feed_100 rfl (lv_at hl 0 rfl) ?_
    refine gf_12_95 C hH d12_feed_101 ?_
    exact ce_iretE C (ce_sok aK aV B0) (ce_drop hH) e d12_feed_104
  · have e := ce_if0 e hc7
    refine lv_iconst (v := (-1 : Int32)) hx hb d12_feed_10 (by decide) ?_
    refine W.widen (k := 1) (n := 5) (by decide) (by decide) ?_
    exact ce_iretE C (ce_sok aK aV B0) (ce_drop hH) e d12_feed_11
end CFE
