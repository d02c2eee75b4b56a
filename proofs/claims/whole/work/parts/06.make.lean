-- making the objects: rows over a world that grows
def cx_W (D : va_G) (cA : Nat → ClassId) (B0 : Nat) (St : State → Prop) (ws : va_W) (U : State) : Prop :=
  va_P D ce_cl ws U.heap ∧ va_D (fun q => B0 ≤ q) ws ∧ va_K D ce_cl (ce_tys cA) U ∧ B0 ≤ U.heap.size ∧ St U
def cx_Q {α : Type} (D : va_G) (cA : Nat → ClassId) (B0 : Nat) (St : State → Prop) (post : α → Prop) (ws' : α → va_W) : Array Value → State → Outcome → State → Prop := fun _ st oc t => (oc = .returned none ∧ ∃ a : α, post a ∧ cx_W D cA B0 St (ws' a) t) ∧ va_F (fun q => B0 ≤ q) st t
/-- a void method that turns the world ws into ws' a, for some a with post a -/
def cx_Ct {α : Type} (l : Launch) (D : va_G) (cA : Nat → ClassId) (B0 : Nat) (St : State → Prop) (y : MethodName) (cc : ByteArray) (nL : Nat) (fr lo mc ms : Nat) (av : List Value) (ws : va_W) (post : α → Prop) (ws' : α → va_W) : Prop :=
  Met l y (Cond.code y cc nL none :: ce_cm) { frames := fr, cells := mc, slots := ms, locals := lo } (va_Pc av (cx_W D cA B0 St ws)) (cx_Q D cA B0 St post ws') mc ms (fun q => B0 ≤ q)
def cx_C (p : Program) (s : State) (m : MethodId) (args : Array Value) (c : Code) (meth : Method) (cc : ByteArray) (nL : Nat) (own : String) (D : va_G) (cA : Nat → ClassId) (B0 : Nat) (St : State → Prop) : Prop :=
  p.tables.exec = Jvm.exec ∧ c.code = cc ∧ c.maxLocals = nL ∧ s.vm.findClass own = some m.cls ∧ (∀ w ∈ ce_cm, w.before args s = true) ∧ va_K D ce_cl (ce_tys cA) s ∧ B0 ≤ s.heap.size ∧ meth.sig.returnType = none ∧ meth.locks = false ∧ St s ∧ meth.name = "<init>"
def cx_H (D : va_G) (B0 : Nat) (s : State) (ws : va_W) (H : Heap) (locs : List Loc) : Prop :=
  va_P D ce_cl ws H ∧ va_D (fun q => B0 ≤ q) ws ∧ va_S (fun q => B0 ≤ q) s.heap H locs
section CX
variable {p : Program} {l : Launch} {e : Env} {R : Room} {s : State} {m : MethodId} {args : Array Value} {below : List Frame} {meth : Method} {c : Code} {H : Heap} {locs : List Loc} {cells slots : Nat} {Q : State → Prop}
variable {cc : ByteArray} {pc nL : Nat} {ls : Array Slot} {rest : List Value} {own : String} {D : va_G} {cA : Nat → ClassId} {B0 : Nat} {St : State → Prop} {pre L : va_W} {a : Nat}
theorem cx_set {pre L : va_W} {i : Nat} {x : Nat × va_E} : (pre ++ L).set (pre.length + i) x = pre ++ L.set i x := by
  rw [List.set_append_right _ _ (by omega)]
  congr 2
  omega
theorem cx_at {pre L : va_W} {i : Nat} {x : Nat × va_E} (h : L[i]? = some x) : (pre ++ L)[pre.length + i]? = some x := by
  rw [List.getElem?_append_right (by omega)]
  rw [show pre.length + i - pre.length = i by omega]
  exact h
theorem cx_enter {α : Type} {y : MethodName} {fr lo mc ms : Nat} {av : List Value} {ws : va_W} {post : α → Prop} {ws' : α → va_W} (hy : plainName y.cls = true) (ho : y.cls = own) (hi : y.name = "<init>") (hlen : (lg_sl av).length ≤ nL)
    (body : ∀ (p : Program) (e : Env) (s : State) (m : MethodId) (below : List Frame) (meth : Method) (c : Code) (ls : Array Slot), cx_C p s m av.toArray c meth cc nL own D cA B0 St → cx_H D B0 s ws s.heap [] → lv_has ls nL (lv_args 0 av) →
      W p l e { frames := fr, cells := mc, slots := ms, locals := lo } s m av.toArray below meth c s.heap [] 0 0 (MQ below (cx_Q D cA B0 St post ws') av.toArray s mc ms (fun q => B0 ≤ q)) (F0 m 0 ls [])) :
    cx_Ct l D cA B0 St y cc nL fr lo mc ms av ws post ws' := by
  refine Met.ofW (cc := cc) (maxL := nL) (ret := none) hy rfl ?_
  intro p e s m args below meth c s₁ B hml hv
  obtain ⟨rfl, hP, hD, hK, hB, hSt⟩ := hv
  have hts := atoms_spec (ws := Cond.code y cc nL none :: ce_cm) B.pre
  have hown : s.vm.findClass own = some m.cls := by rw [← ho]; exact findClass_of_methodNamed B.named
  have hl := lv_entry av (n := nL) hlen
  rw [lg_entry_eq]
  exact body p e s m below meth c _ ⟨B.exec, B.bytes, hml, hown, fun w hw => hts w (List.mem_cons_of_mem _ hw), hK, hB, B.returns, B.notSynchronized, hSt, by rw [← hi]; exact (name_of_methodNamed B.named B.method).1⟩ ⟨hP, hD, va_S.rf⟩ hl
theorem cx_ret {α : Type} {post : α → Prop} {ws' : α → va_W} (C : cx_C p s m args c meth cc nL own D cA B0 St) (hok : ce_Sok B0 St) (x : α) (hx : post x) (hH : cx_H D B0 s (ws' x) H locs) (hdg : decode cc pc = .ok (.return_, 1)) :
    W p l e R s m args below meth c H locs cells slots (MQ below (cx_Q D cA B0 St post ws') args s cells slots (fun q => B0 ≤ q)) (F0 m pc ls []) := by
  obtain ⟨hx1, hb, hml, hown, hts, hK, hB, hr, hlk, hSt, -⟩ := C
  obtain ⟨hP, hD, hS⟩ := hH
  refine W.vret (Qc := cx_Q D cA B0 St post ws') hx1 hb hr (fun t ht hW => ?_) hS.2.2 hdg hlk
  exact ⟨⟨rfl, x, hx, by rw [ht]; exact hP, hD, va_K.moved hW.alike hK, by rw [ht]; exact Nat.le_trans hB hS.1, hok.1 s t hW hSt (fun q q1 q2 => by rw [ht]; exact hS.2.1 q q1 q2)⟩, hS.F ht⟩
theorem cx_back {α : Type} {post : α → Prop} {ws' : α → va_W} {ws : va_W} (C : cx_C p s m args c meth cc nL own D cA B0 St) (hH : cx_H D B0 s ws H locs) {mc ms : Nat} {st0 : List Value} {a : Array Value}
    (hr : va_Run p l e R s m args below meth c H locs cells slots mc ms (F0 m pc ls st0) rest (cx_Q D cA B0 St post ws' a) (fun q => B0 ≤ q))
    (kk : ∀ (x : α) (H1 : Heap) (locs1 : List Loc), post x → cx_H D B0 s (ws' x) H1 locs1 → W p l e R s m args below meth c H1 locs1 (cells + mc) (slots + ms) Q (F0 m (pc + 3) ls rest)) : W p l e R s m args below meth c H locs cells slots Q (F0 m pc ls st0) := by
  obtain ⟨hP, hD, hS⟩ := hH
  intro T hT X
  obtain ⟨v, st₀, t, T', L, h0, X', hL, e1, e2, ⟨⟨hv, x, hx, hP1, hD1, hK1, -⟩, hz, hk⟩, st⟩ := hr T hT X
  cases hv
  rw [h0] at hz hk
  rw [← e1] at hP1 hz hk
  obtain ⟨t2, a1, b1⟩ := kk x T'.heap (locs ++ L) hx ⟨hP1, hD1, Nat.le_trans hS.1 hz, fun q h1 h2 => by rw [hk q (Nat.lt_of_lt_of_le h1 hS.1) h2]; exact hS.2.1 q h1 h2, fun q hq => by
      rcases List.mem_append.mp hq with z | z
      · exact hS.2.2 q z
      · exact hL q z⟩ T' rfl X'
  exact ⟨t2, st t2 a1, b1⟩
theorem cx_blind {av : List Value} {ws : va_W} (hok : ce_Sok B0 St) : FrameBlind (va_Pc av (cx_W D cA B0 St ws)) := by
  intro a U g mk q
  obtain ⟨q0, qP, qD, qK, qB, qS⟩ := q
  exact ⟨q0, qP, qD, va_K.moved (u := U) (U := U.calling g mk a) (Vm.Alike.refl U.vm) qK, qB, hok.2 U _ rfl rfl qS⟩
theorem cx_pre {av : List Value} {ws : va_W} (hok : ce_Sok B0 St) (C : cx_C p s m args c meth cc nL own D cA B0 St) (hH : cx_H D B0 s ws H locs) : ∀ U : State, U.heap = H → s.WarmedH U.vm → va_Pc av (cx_W D cA B0 St ws) av.toArray U := by
  obtain ⟨hx, hb, hml, hown, hts, hK, hB, -, -, hSt, -⟩ := C
  obtain ⟨hP, hD, hS⟩ := hH
  intro U hU hW
  exact ⟨rfl, by rw [hU]; exact hP, hD, va_K.moved hW.alike hK, by rw [hU]; exact Nat.le_trans hB hS.1, hok.1 s U hW hSt (fun q q1 q2 => by rw [hU]; exact hS.2.1 q q1 q2)⟩
/-- a constructor of a nest mate -/
theorem cx_callIN {α : Type} {post : α → Prop} {ws' : α → va_W} {ws : va_W} (C : cx_C p s m args c meth cc nL own D cA B0 St) (hok : ce_Sok B0 St) (hH : cx_H D B0 s ws H locs) {y : MethodName} {host : String} {bytes : ByteArray} {maxL fr lo mc ms idx b : Nat}
    (hM : cx_Ct l D cA B0 St y bytes maxL fr lo mc ms [.ref b] ws post ws') (hyi : y.name = "<init>")
    (hcode : Cond.code y bytes maxL none ∈ ce_cm) (hlink : (Cond.methodLinkNest own idx y host).before args s = true) (hinst : Cond.instanceMethod y ∈ ce_cm) (hini : Cond.initialized y.cls ∈ ce_cm)
    (hd : y.cls ≠ "java/lang/invoke/MethodHandle" ∧ y.cls ≠ "java/lang/invoke/VarHandle" ∧ (parseMethodDescriptor y.desc).map (fun d => d.parameters.length) = some 0) (hR : fr + 1 ≤ R.frames ∧ 8 + (maxL + 11) + lo ≤ R.locals) (hcs : cells + mc ≤ R.cells ∧ slots + ms ≤ R.slots)
    (hls : ls.size = nL) (hW : (rest.map fun v => v.category).sum ≤ 8) (hdg : decode cc pc = .ok (.invokespecial idx, 3))
    (kk : ∀ (x : α) (H1 : Heap) (locs1 : List Loc), post x → cx_H D B0 s (ws' x) H1 locs1 → W p l e R s m args below meth c H1 locs1 (cells + mc) (slots + ms) Q (F0 m (pc + 3) ls rest)) : W p l e R s m args below meth c H locs cells slots Q (F0 m pc ls (.ref b :: rest)) := by
  have hts := C.2.2.2.2.1
  have hc : Cond.code y bytes maxL none ∈ (Cond.code y bytes maxL none :: ce_cm) := List.mem_cons_self
  refine cx_back C hH (va_runIN (As := []) (rest := rest) (n := 0) (host := host) ⟨C.1, C.2.1, C.2.2.1, C.2.2.2.1, hts⟩ hM ⟨⟨⟨rfl, rfl, hR.1, hR.2, pay_in hts (ce_good hcode), hc⟩, hts _ hcode, hts _ hini, ⟨hd.1, hd.2.1⟩, fun sig z => ?_, hlink⟩, hyi, hts _ hinst⟩ ⟨cx_blind hok, cx_pre hok C hH⟩ rfl rfl hls rfl (lv_room hW) hdg hcs) kk
  have h2 := hd.2.2
  rw [z] at h2
  exact (Option.some.inj h2).symm
/-- a constructor that may be seen from everywhere -/
theorem cx_callI {α : Type} {post : α → Prop} {ws' : α → va_W} {ws : va_W} (C : cx_C p s m args c meth cc nL own D cA B0 St) (hok : ce_Sok B0 St) (hH : cx_H D B0 s ws H locs) {y : MethodName} {bytes : ByteArray} {maxL fr lo mc ms idx b : Nat}
    (hM : cx_Ct l D cA B0 St y bytes maxL fr lo mc ms [.ref b] ws post ws') (hyi : y.name = "<init>")
    (hcode : Cond.code y bytes maxL none ∈ ce_cm) (hlink : Cond.methodLink own idx y ∈ ce_cm) (hinst : Cond.instanceMethod y ∈ ce_cm) (hini : Cond.initialized y.cls ∈ ce_cm)
    (hd : y.cls ≠ "java/lang/invoke/MethodHandle" ∧ y.cls ≠ "java/lang/invoke/VarHandle" ∧ (parseMethodDescriptor y.desc).map (fun d => d.parameters.length) = some 0) (hR : fr + 1 ≤ R.frames ∧ 8 + (maxL + 11) + lo ≤ R.locals) (hcs : cells + mc ≤ R.cells ∧ slots + ms ≤ R.slots)
    (hls : ls.size = nL) (hW : (rest.map fun v => v.category).sum ≤ 8) (hdg : decode cc pc = .ok (.invokespecial idx, 3))
    (kk : ∀ (x : α) (H1 : Heap) (locs1 : List Loc), post x → cx_H D B0 s (ws' x) H1 locs1 → W p l e R s m args below meth c H1 locs1 (cells + mc) (slots + ms) Q (F0 m (pc + 3) ls rest)) : W p l e R s m args below meth c H locs cells slots Q (F0 m pc ls (.ref b :: rest)) := by
  have hts := C.2.2.2.2.1
  exact cx_back C hH (va_runI (As := []) (rest := rest) (n := 0) ⟨C.1, C.2.1, C.2.2.1, C.2.2.2.1, hts⟩ hM ⟨callB_of 0 hts (ce_good hcode) rfl rfl rfl (hts _ hini) (hts _ hlink) hd hR, hyi, hts _ hinst⟩ ⟨cx_blind hok, cx_pre hok C hH⟩ rfl rfl hls rfl (lv_room hW) hdg hcs) kk
theorem cx_callS {α : Type} {post : α → Prop} {ws' : α → va_W} {ws : va_W} (C : cx_C p s m args c meth cc nL own D cA B0 St) (hok : ce_Sok B0 St) (hH : cx_H D B0 s ws H locs) {y : MethodName} {bytes : ByteArray} {maxL fr lo mc ms n idx : Nat} {As : List Value} {st0 : List Value}
    (hM : cx_Ct l D cA B0 St y bytes maxL fr lo mc ms As ws post ws')
    (hcode : Cond.code y bytes maxL none ∈ ce_cm) (hlink : Cond.methodLink own idx y ∈ ce_cm) (hstat : Cond.static y ∈ ce_cm) (hini : Cond.initialized y.cls ∈ ce_cm)
    (hd : y.cls ≠ "java/lang/invoke/MethodHandle" ∧ y.cls ≠ "java/lang/invoke/VarHandle" ∧ (parseMethodDescriptor y.desc).map (fun d => d.parameters.length) = some n) (hn : As.length = n) (hR : fr + 1 ≤ R.frames ∧ 8 + (maxL + 11) + lo ≤ R.locals) (hcs : cells + mc ≤ R.cells ∧ slots + ms ≤ R.slots)
    (hls : ls.size = nL) (hst : st0 = As.reverse ++ rest) (hW : (rest.map fun v => v.category).sum ≤ 8) (hdg : decode cc pc = .ok (.invokestatic idx, 3))
    (kk : ∀ (x : α) (H1 : Heap) (locs1 : List Loc), post x → cx_H D B0 s (ws' x) H1 locs1 → W p l e R s m args below meth c H1 locs1 (cells + mc) (slots + ms) Q (F0 m (pc + 3) ls rest)) : W p l e R s m args below meth c H locs cells slots Q (F0 m pc ls st0) := by
  have hts := C.2.2.2.2.1
  exact cx_back C hH (va_runS (As := As) (rest := rest) (n := n) ⟨C.1, C.2.1, C.2.2.1, C.2.2.2.1, hts⟩ hM ⟨callB_of n hts (ce_good hcode) rfl rfl rfl (hts _ hini) (hts _ hlink) hd hR, hts _ hstat⟩ ⟨cx_blind hok, cx_pre hok C hH⟩ rfl hn hls hst (lv_room hW) hdg hcs) kk
theorem cx_obj (C : cx_C p s m args c meth cc nL own D cA B0 St) {idx : Nat} {a : Nat} (hlink : Cond.methodLink own idx Lib.objectInit ∈ ce_cm) (hinst : Cond.instanceMethod Lib.objectInit ∈ ce_cm) (hcode : Cond.code Lib.objectInit ⟨#[0xb1]⟩ 1 none ∈ ce_cm) (hls : ls.size = nL) (hdg : decode cc pc = .ok (.invokespecial idx, 3)) (hf : 1 ≤ R.frames) (hlo : 12 ≤ R.locals)
    (kk : W p l e R s m args below meth c H locs cells slots Q (F0 m (pc + 3) ls [])) : W p l e R s m args below meth c H locs cells slots Q (F0 m pc ls [.ref a]) := by
  have hts := C.2.2.2.2.1
  refine W.objInit C.1 C.2.1 C.2.2.2.1 (hts _ hlink) (hts _ hinst) (hts _ hcode) rfl (by rw [C.2.2.1]; exact hls) rfl hdg hf hlo kk
theorem cx_put (C : cx_C p s m args c meth cc nL own D cA B0 St) (hH : cx_H D B0 s (pre ++ L) H locs) {i ci j idx N : Nat} {cn : String} {ft : u_T} {fy : Nat → FieldType} {fs : List Value} {v : Value} (he : L[i]? = some (a, .inr (ci, fs))) (hc : ce_cl[ci]? = some (cn, ft, N)) (hin : ∀ w ∈ u_ws cn ft N, w ∈ ce_cm) (hty : ∀ k, k < N → parseFieldDescriptor (ft k).2.2.1 = some (fy k)) (hnm : ∀ a, a < N → ∀ b, b < N → a ≠ b → (ft a).2.1 ≠ (ft b).2.1) (hj : j < N) (hlink : Cond.fieldLink own idx (ft j).1 (ft j).2.1 (ft j).2.2.1 ∈ ce_cm) (hdecl : (ft j).1 = own) (hn : narrow (fy j) v = v) (hfit : fits (fy j) v = true) (hl : j < fs.length) (hdg : decode cc pc = .ok (.putfield idx, 3))
    (kk : ∀ (H1 : Heap) (locs1 : List Loc), cx_H D B0 s (pre ++ L.set i (a, .inr (ci, fs.set j v))) H1 locs1 → W p l e R s m args below meth c H1 locs1 cells slots Q (F0 m (pc + 3) ls rest)) : W p l e R s m args below meth c H locs cells slots Q (F0 m pc ls (v :: .ref a :: rest)) := by
  obtain ⟨hx, hb, hml, hown, hts, hK, hB, -, -, -, hin2⟩ := C
  cases hf : (ft j).2.2.2 with
  | false =>
    refine va_put (D := D) hx hb hts hin fy hty hnm hown hK hH.1 hH.2.1 hH.2.2 (pre.length + i) (cx_at he) hc j hj (hts _ hlink) (fun _ z => z) hf (hty j hj) hn hfit hl hdg (fun H1 locs1 q1 q2 q3 => ?_)
    rw [cx_set] at q1 q2
    exact kk H1 locs1 ⟨q1, q2, q3⟩
  | true =>
    refine va_putF (D := D) hx hb hts hin fy hty hnm hown hK hH.1 hH.2.1 hH.2.2 (pre.length + i) (cx_at he) hc j hj (hts _ hlink) (fun _ z => z) hf hin2 hdecl (hty j hj) hn hfit hl hdg (fun H1 locs1 q1 q2 q3 => ?_)
    rw [cx_set] at q1 q2
    exact kk H1 locs1 ⟨q1, q2, q3⟩
theorem cx_get (C : cx_C p s m args c meth cc nL own D cA B0 St) (hH : cx_H D B0 s (pre ++ L) H locs) {i ci j idx N : Nat} {cn : String} {ft : u_T} {fs : List Value} {v : Value} (he : L[i]? = some (a, .inr (ci, fs))) (hc : ce_cl[ci]? = some (cn, ft, N)) (hin : ∀ w ∈ u_ws cn ft N, w ∈ ce_cm) (hj : j < N) (hlink : Cond.fieldLink own idx (ft j).1 (ft j).2.1 (ft j).2.2.1 ∈ ce_cm) (hv : fs[j]? = some v) (hdg : decode cc pc = .ok (.getfield idx, 3))
    (kk : W p l e R s m args below meth c H locs cells slots Q (F0 m (pc + 3) ls (v :: rest))) : W p l e R s m args below meth c H locs cells slots Q (F0 m pc ls (.ref a :: rest)) := by
  obtain ⟨hx, hb, hml, hown, hts, hK, hB, -, -, -, hin2⟩ := C
  exact va_get (D := D) hx hb hts hin hown hK hH.1 (pre.length + i) (cx_at he) hc j hj (hts _ hlink) (fun _ z => z) hv hdg kk
theorem cx_newa (C : cx_C p s m args c meth cc nL own D cA B0 St) (hH : cx_H D B0 s (pre ++ L) H locs) (atype : ArrayType) (t : Nat) {ty : FieldType} (hty : newarray.typeOf atype = ty) (hq : (ce_tys cA)[t]? = some (cA t, ty)) (harr : Cond.arrayClass (newarray.typeOf atype) ∈ ce_cm) (hra : ∀ x : ClassId, va_RA s x ty = (s.vm.findClass ("[" ++ ty.toString) = some x)) (hdf : defaultValue ty = .int 0) {n : Int32} {N : Nat} (hn : ¬ n < 0) (hN : n.toNatClampNeg = N) (hbytes : N * componentBytes ty ≤ 536870912) (hcells : cells + 1 ≤ R.cells) (hslots : slots + N ≤ R.slots) (hdg : decode cc pc = .ok (.newarray atype, 2))
    (kk : ∀ (q : Nat) (H1 : Heap), cx_H D B0 s (pre ++ (L ++ [(q, .inl (cA t, N, .inl (fun _ => 0)))])) H1 locs → W p l e R s m args below meth c H1 locs (cells + 1) (slots + N) Q (F0 m (pc + 2) ls (.ref q :: rest))) : W p l e R s m args below meth c H locs cells slots Q (F0 m pc ls (.int n :: rest)) := by
  obtain ⟨hx, hb, hml, hown, hts, hK, hB, -⟩ := C
  refine va_newa (D := D) (a0 := (N, .inl (fun _ => 0))) hx hb (hts _ harr) hty hK hH.1 hH.2.1 hH.2.2 (fun q h => Nat.le_trans hB h) (fun c9 => by rw [vp_cell_i, hdf]) hn hN hbytes hcells hslots hdg (fun q c9 H1 k1 q1 q2 q3 => ?_)
  have e1 := (k1.2 3 (c9, ty) rfl).2
  have e2 := (hK.2 t (cA t, ty) hq).2
  rw [hra] at e1 e2
  have e3 : c9 = cA t := Option.some.inj (e1.symm.trans e2)
  subst e3
  rw [List.append_assoc] at q1 q2
  exact kk q H1 ⟨q1, q2, q3⟩
theorem cx_new (C : cx_C p s m args c meth cc nL own D cA B0 St) (hH : cx_H D B0 s (pre ++ L) H locs) {ci idx N : Nat} {cn : String} {ft : u_T} {fy : Nat → FieldType} (hc : ce_cl[ci]? = some (cn, ft, N)) (hin : ∀ w ∈ u_ws cn ft N, w ∈ ce_cm) (hty : ∀ k, k < N → parseFieldDescriptor (ft k).2.2.1 = some (fy k)) (hcl : Cond.classLink own idx cn ∈ ce_cm) (hinst : Cond.instantiable cn N ∈ ce_cm) (hini : Cond.initialized cn ∈ ce_cm) {fs : List Value} (hfs : ∀ j, j < N → defaultValue (fy j) = vp_V fs j) (hcells : cells + 1 ≤ R.cells) (hslots : slots + N ≤ R.slots) (hdg : decode cc pc = .ok (.new idx, 3))
    (kk : ∀ (q : Nat) (H1 : Heap), cx_H D B0 s ((pre ++ L) ++ [(q, .inr (ci, fs))]) H1 locs → W p l e R s m args below meth c H1 locs (cells + 1) (slots + N) Q (F0 m (pc + 3) ls (.ref q :: rest))) : W p l e R s m args below meth c H locs cells slots Q (F0 m pc ls rest) := by
  obtain ⟨hx, hb, hml, hown, hts, hK, hB, -⟩ := C
  exact va_new (D := D) hx hb hts hin fy hty hown (hts _ hcl) (hts _ hinst) (hts _ hini) hK hH.1 hH.2.1 hH.2.2 (fun q h => Nat.le_trans hB h) hc hfs hcells hslots hdg (fun q H1 q1 q2 q3 => kk q H1 ⟨q1, q2, q3⟩)
end CX
theorem mI_obj : Cond.instanceMethod Lib.objectInit ∈ ce_cm := ce_cm_of (List.mem_of_getElem? (i := 115) (by decide +kernel)) (by decide +kernel)
theorem mC_obj : Cond.code Lib.objectInit ⟨#[0xb1]⟩ 1 none ∈ ce_cm := ce_cm_of (List.mem_of_getElem? (i := 116) (by decide +kernel)) (by decide +kernel)
theorem mA_0 : Cond.arrayClass (newarray.typeOf .int) ∈ ce_cm := ce_cm_of (List.mem_of_getElem? (i := 182) (by decide +kernel)) (by decide +kernel)
theorem mA_1 : Cond.arrayClass (newarray.typeOf .byte) ∈ ce_cm := ce_cm_of (List.mem_of_getElem? (i := 138) (by decide +kernel)) (by decide +kernel)
theorem mA_2 : Cond.arrayClass (newarray.typeOf .boolean) ∈ ce_cm := ce_cm_of (List.mem_of_getElem? (i := 263) (by decide +kernel)) (by decide +kernel)
