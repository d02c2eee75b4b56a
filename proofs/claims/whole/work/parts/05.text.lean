-- the String constants' length and charAt
abbrev bS_length : ByteArray := prog_16_method_54_code
def yS_length : MethodName := ⟨"java/lang/String", "length", "()I"⟩
abbrev bS_charAt : ByteArray := prog_16_method_56_code
def yS_charAt : MethodName := ⟨"java/lang/String", "charAt", "(I)C"⟩
def ce_slen (w : Nat) : Int32 := nI (ce_lens.getD w 0)
def ce_chr (w : Nat) (i : Int32) : Int32 := (ce_byt.getD w []).getD i.toNatClampNeg 0
section CE5
variable {p : Program} {l : Launch} {e : Env} {R : Room} {s : State} {m : MethodId} {args : Array Value} {below : List Frame} {meth : Method} {c : Code} {H : Heap} {locs : List Loc} {cells slots : Nat} {Q : State → Prop}
variable {cc : ByteArray} {pc nL : Nat} {ret : Option FieldType} {ls : Array Slot} {rest : List Value} {own : String} {D : va_G} {ad : Nat → Nat} {cA : Nat → ClassId} {B0 : Nat} {h : Hp} {aK aV : Nat → Nat}
/-- a call of a method of a String constant -/
theorem ce_callT (C : ce_Cx p s m args c meth cc nL ret own D ad cA B0 (ce_St aK aV B0)) (hH : ce_H D ad cA B0 [] s h H locs) {y : MethodName} {bytes : ByteArray} {maxL fr lo n idx w : Nat} {rt : Option FieldType} {As : List Value} {rv : Option Value} {st0 : List Value}
    (hM : ce_Ct l D ad cA B0 (ce_St aK aV B0) y bytes maxL rt fr lo 0 0 (.ref (aK w) :: As) h rv h) (hw : w < 9) (hyc : y.cls = "java/lang/String")
    (hcode : Cond.code y bytes maxL rt ∈ ce_cm) (hlink : Cond.methodLink own idx y ∈ ce_cm) (hinst : Cond.instanceMethod y ∈ ce_cm) (hsel : Cond.selects y.cls y y ∈ ce_cm) (hini : Cond.initialized y.cls ∈ ce_cm)
    (hd : y.cls ≠ "java/lang/invoke/MethodHandle" ∧ y.cls ≠ "java/lang/invoke/VarHandle" ∧ (parseMethodDescriptor y.desc).map (fun d => d.parameters.length) = some n) (hn : As.length = n) (hR : fr + 1 ≤ R.frames ∧ 8 + (maxL + 11) + lo ≤ R.locals) (hcs : cells + 0 ≤ R.cells ∧ slots + 0 ≤ R.slots)
    (hls : ls.size = nL) (hst : st0 = As.reverse ++ .ref (aK w) :: rest) (hW : (rest.map fun v => v.category).sum ≤ 8) (hdg : decode cc pc = .ok (.invokevirtual idx, 3))
    (kk : ∀ (H1 : Heap) (locs1 : List Loc), ce_H D ad cA B0 [] s h H1 locs1 → W p l e R s m args below meth c H1 locs1 (cells + 0) (slots + 0) Q (F0 m (pc + 3) ls (rv.toList ++ rest))) : W p l e R s m args below meth c H locs cells slots Q (F0 m pc ls st0) := by
  have hrec := vk_recv C.2.2.2.2.2.2.2.2.2.2.1 hw hH.2.2
  have hts := C.2.2.2.2.1
  refine ce_back C hH (va_runV (As := As) (rest := rest) (n := n) (C := y.cls) ⟨C.1, C.2.1, C.2.2.1, C.2.2.2.1, hts⟩ hM ⟨callB_of n hts (ce_good hcode) rfl rfl rfl (hts _ hini) (hts _ hlink) hd hR, hts _ hinst, hts _ hsel⟩ ⟨ce_blind (ce_sok aK aV B0), by rw [hyc]; exact hrec, ce_at (ce_sok aK aV B0) C hH⟩ rfl hn hls hst (lv_room hW) hdg hcs) kk
end CE5
theorem cS_length (l : Launch) (D : va_G) (ad : Nat → Nat) (cA : Nat → ClassId) (aK aV : Nat → Nat) (B0 : Nat) (hA : ce_Ad ad B0) (w : Nat) (hw : w < 9) (h : Hp) : ce_Ct l D ad cA B0 (ce_St aK aV B0) yS_length bS_length 1 (some .int) 8 200 0 0 [.ref (aK w)] h (some (.int (ce_slen w))) h := sorry
theorem cS_charAt (l : Launch) (D : va_G) (ad : Nat → Nat) (cA : Nat → ClassId) (aK aV : Nat → Nat) (B0 : Nat) (hA : ce_Ad ad B0) (w : Nat) (hw : w < 9) (i : Int32) (hi : ce_in i (ce_lens.getD w 0) = true) (h : Hp) : ce_Ct l D ad cA B0 (ce_St aK aV B0) yS_charAt bS_charAt 2 (some .char) 8 200 0 0 [.ref (aK w), .int i] h (some (.int (ce_chr w i))) h := sorry
