-- contracts and calls over the one world
/-- the world at a state -/
def ce_Wd (D : va_G) (ad : Nat → Nat) (cA : Nat → ClassId) (B0 : Nat) (St : State → Prop) (h : Hp) (U : State) : Prop :=
  va_P D ce_cl (ce_wl ad cA h ++ []) U.heap ∧ va_K D ce_cl (ce_tys cA) U ∧ B0 ≤ U.heap.size ∧ St U
def ce_Q (D : va_G) (ad : Nat → Nat) (cA : Nat → ClassId) (B0 : Nat) (St : State → Prop) (rv : Option Value) (h' : Hp) : Array Value → State → Outcome → State → Prop :=
  fun _ st oc t => (oc = .returned rv ∧ ce_Wd D ad cA B0 St h' t) ∧ va_F (fun q => B0 ≤ q) st t
/-- what is known of the old part of the heap stays known while nothing old changes -/
def ce_Sok (B0 : Nat) (St : State → Prop) : Prop := (∀ u U : State, u.WarmedH U.vm → St u → (∀ q : Nat, q < u.heap.size → ¬ B0 ≤ q → U.heap[q]? = u.heap[q]?) → St U) ∧ ∀ u U : State, U.vm = u.vm → U.heap = u.heap → St u → St U
/-- the contract of a method: from the world h with these arguments it returns rv and leaves the world h' -/
def ce_Ct (l : Launch) (D : va_G) (ad : Nat → Nat) (cA : Nat → ClassId) (B0 : Nat) (St : State → Prop) (y : MethodName) (cc : ByteArray) (nL : Nat) (ret : Option FieldType) (fr lo mc ms : Nat) (av : List Value) (h : Hp) (rv : Option Value) (h' : Hp) : Prop :=
  Met l y (Cond.code y cc nL ret :: ce_cm) { frames := fr, cells := mc, slots := ms, locals := lo } (va_Pc av (ce_Wd D ad cA B0 St h)) (ce_Q D ad cA B0 St rv h') mc ms (fun q => B0 ≤ q)
theorem ce_wl_D {ad : Nat → Nat} {B0 : Nat} (hA : ce_Ad ad B0) (cA : Nat → ClassId) (h : Hp) : va_D (fun q => B0 ≤ q) (ce_wl ad cA h ++ []) := by
  have key : ∀ (i : Nat) (p : Nat × va_E), (ce_wl ad cA h ++ [])[i]? = some p → i < 96 ∧ p.1 = ad i := by
    intro i p hp
    have hi : i < 96 := by
      have := (List.getElem?_eq_some_iff.mp hp).1
      simpa [ce_wl] using this
    rw [ce_wl_get ad cA h [] hi] at hp
    cases hp
    exact ⟨hi, rfl⟩
  refine ⟨fun i j p q hi hj e => ?_, fun k q hk => ?_⟩
  · obtain ⟨a1, a2⟩ := key i p hi
    obtain ⟨b1, b2⟩ := key j q hj
    exact hA.1 i j a1 b1 (by rw [← a2, ← b2, e])
  · obtain ⟨a1, a2⟩ := key k q hk
    show B0 ≤ q.1
    rw [a2]
    exact hA.2 k a1
theorem ce_good {y : MethodName} {cc : ByteArray} {nL : Nat} {ret : Option FieldType} (hc : Cond.code y cc nL ret ∈ ce_cm) : GoodIn ce_cm (Cond.code y cc nL ret :: ce_cm) := by
  intro w hw
  have hm : w ∈ ce_cm := by
    rcases List.mem_cons.mp hw with h | h
    · rw [h]; exact hc
    · exact h
  exact ⟨hm, good_of_word (List.mem_filter.mp hm).2⟩
section CE3
variable {p : Program} {l : Launch} {e : Env} {R : Room} {s : State} {m : MethodId} {args : Array Value} {below : List Frame} {meth : Method} {c : Code} {H : Heap} {locs : List Loc} {cells slots : Nat} {Q : State → Prop}
variable {cc : ByteArray} {pc nL : Nat} {ret : Option FieldType} {ls : Array Slot} {rest : List Value} {own : String} {D : va_G} {ad : Nat → Nat} {cA : Nat → ClassId} {B0 : Nat} {h : Hp} {St : State → Prop}
/-- a method's walk gives its contract -/
theorem ce_enter {y : MethodName} {fr lo mc ms : Nat} {av : List Value} {rv : Option Value} {h' : Hp} (hA : ce_Ad ad B0) (hy : plainName y.cls = true) (ho : y.cls = own) (hlen : (lg_sl av).length ≤ nL)
    (body : ∀ (p : Program) (e : Env) (s : State) (m : MethodId) (below : List Frame) (meth : Method) (c : Code) (ls : Array Slot), ce_Cx p s m av.toArray c meth cc nL ret own D ad cA B0 St → ce_H D ad cA B0 [] s h s.heap [] → lv_has ls nL (lv_args 0 av) →
      W p l e { frames := fr, cells := mc, slots := ms, locals := lo } s m av.toArray below meth c s.heap [] 0 0 (MQ below (ce_Q D ad cA B0 St rv h') av.toArray s mc ms (fun q => B0 ≤ q)) (F0 m 0 ls [])) :
    ce_Ct l D ad cA B0 St y cc nL ret fr lo mc ms av h rv h' := by
  refine Met.ofW (cc := cc) (maxL := nL) (ret := ret) hy rfl ?_
  intro p e s m args below meth c s₁ B hml hv
  obtain ⟨rfl, hP, hK, hB, hSt⟩ := hv
  have hts := atoms_spec (ws := Cond.code y cc nL ret :: ce_cm) B.pre
  have hown : s.vm.findClass own = some m.cls := by rw [← ho]; exact findClass_of_methodNamed B.named
  have hl := lv_entry av (n := nL) hlen
  rw [lg_entry_eq]
  exact body p e s m below meth c _ ⟨B.exec, B.bytes, hml, hown, fun w hw => hts w (List.mem_cons_of_mem _ hw), hK, hA, hB, B.returns, B.notSynchronized, hSt⟩ ⟨hP, ce_wl_D hA cA h, va_S.rf⟩ hl
theorem ce_fin (C : ce_Cx p s m args c meth cc nL ret own D ad cA B0 St) (hok : ce_Sok B0 St) (hH : ce_H D ad cA B0 [] s h H locs) {rv : Option Value} : ∀ t : State, t.heap = H → s.WarmedH t.vm → ce_Q D ad cA B0 St rv h args s (.returned rv) t := by
  obtain ⟨hx, hb, hml, hown, hts, hK, hA, hB, -, -, hSt⟩ := C
  obtain ⟨hP, hD, hS⟩ := hH
  intro t ht hW
  exact ⟨⟨rfl, by rw [ht]; exact hP, va_K.moved hW.alike hK, by rw [ht]; exact Nat.le_trans hB hS.1, hok.1 s t hW hSt (fun q q1 q2 => by rw [ht]; exact hS.2.1 q q1 q2)⟩, hS.F ht⟩
theorem ce_iret (C : ce_Cx p s m args c meth cc nL (some .int) own D ad cA B0 St) (hok : ce_Sok B0 St) (hH : ce_H D ad cA B0 [] s h H locs) {v : Int32} {rv : Option Value} {h' : Hp} (e1 : some (Value.int v) = rv) (e2 : h = h') (hdg : decode cc pc = .ok (.ireturn, 1)) :
    W p l e R s m args below meth c H locs cells slots (MQ below (ce_Q D ad cA B0 St rv h') args s cells slots (fun q => B0 ≤ q)) (F0 m pc ls [.int v]) := by
  subst e1
  subst e2
  exact W.iret C.1 C.2.1 C.2.2.2.2.2.2.2.2.1 (ce_fin C hok hH) hH.2.2.2.2 hdg C.2.2.2.2.2.2.2.2.2.1
theorem ce_zret (C : ce_Cx p s m args c meth cc nL (some .boolean) own D ad cA B0 St) (hok : ce_Sok B0 St) (hH : ce_H D ad cA B0 [] s h H locs) {v : Int32} {rv : Option Value} {h' : Hp} (hv : v = 0 ∨ v = 1) (e1 : some (Value.int v) = rv) (e2 : h = h') (hdg : decode cc pc = .ok (.ireturn, 1)) :
    W p l e R s m args below meth c H locs cells slots (MQ below (ce_Q D ad cA B0 St rv h') args s cells slots (fun q => B0 ≤ q)) (F0 m pc ls [.int v]) := by
  subst e1
  subst e2
  exact W.zret C.1 C.2.1 C.2.2.2.2.2.2.2.2.1 (by rcases hv with rfl | rfl <;> rfl) (ce_fin C hok hH) hH.2.2.2.2 hdg C.2.2.2.2.2.2.2.2.2.1
theorem ce_vret (C : ce_Cx p s m args c meth cc nL none own D ad cA B0 St) (hok : ce_Sok B0 St) (hH : ce_H D ad cA B0 [] s h H locs) {h' : Hp} (e2 : h = h') (hdg : decode cc pc = .ok (.return_, 1)) :
    W p l e R s m args below meth c H locs cells slots (MQ below (ce_Q D ad cA B0 St none h') args s cells slots (fun q => B0 ≤ q)) (F0 m pc ls []) := by
  subst e2
  exact W.vret C.1 C.2.1 C.2.2.2.2.2.2.2.2.1 (ce_fin C hok hH) hH.2.2.2.2 hdg C.2.2.2.2.2.2.2.2.2.1
theorem ce_iretE (C : ce_Cx p s m args c meth cc nL (some .int) own D ad cA B0 St) (hok : ce_Sok B0 St) (hH : ce_H D ad cA B0 [] s h H locs) {v : Int32} {r : Int32 × Hp} (e1 : some (v, h) = some r) (hdg : decode cc pc = .ok (.ireturn, 1)) :
    W p l e R s m args below meth c H locs cells slots (MQ below (ce_Q D ad cA B0 St (some (.int r.1)) r.2) args s cells slots (fun q => B0 ≤ q)) (F0 m pc ls [.int v]) := by
  cases e1
  exact ce_iret C hok hH rfl rfl hdg
theorem ce_zretE (C : ce_Cx p s m args c meth cc nL (some .boolean) own D ad cA B0 St) (hok : ce_Sok B0 St) (hH : ce_H D ad cA B0 [] s h H locs) {v : Int32} {r : Int32 × Hp} (hv : v = 0 ∨ v = 1) (e1 : some (v, h) = some r) (hdg : decode cc pc = .ok (.ireturn, 1)) :
    W p l e R s m args below meth c H locs cells slots (MQ below (ce_Q D ad cA B0 St (some (.int r.1)) r.2) args s cells slots (fun q => B0 ≤ q)) (F0 m pc ls [.int v]) := by
  cases e1
  exact ce_zret C hok hH hv rfl rfl hdg
theorem ce_back (C : ce_Cx p s m args c meth cc nL ret own D ad cA B0 St) (hH : ce_H D ad cA B0 [] s h H locs) {mc ms : Nat} {st0 : List Value} {rv : Option Value} {h' : Hp} {a : Array Value}
    (hr : va_Run p l e R s m args below meth c H locs cells slots mc ms (F0 m pc ls st0) rest (ce_Q D ad cA B0 St rv h' a) (fun q => B0 ≤ q))
    (kk : ∀ (H1 : Heap) (locs1 : List Loc), ce_H D ad cA B0 [] s h' H1 locs1 → W p l e R s m args below meth c H1 locs1 (cells + mc) (slots + ms) Q (F0 m (pc + 3) ls (rv.toList ++ rest))) : W p l e R s m args below meth c H locs cells slots Q (F0 m pc ls st0) := by
  obtain ⟨hx, hb, hml, hown, hts, hK, hA, hB, -⟩ := C
  obtain ⟨hP, hD, hS⟩ := hH
  intro T hT X
  obtain ⟨v, st₀, t, T', L, h0, X', hL, e1, e2, ⟨⟨hv, hP1, hK1, -⟩, hz, hk⟩, st⟩ := hr T hT X
  cases hv
  rw [h0] at hz hk
  rw [← e1] at hP1 hz hk
  obtain ⟨t2, a1, b1⟩ := kk T'.heap (locs ++ L) ⟨hP1, ce_wl_D hA cA h', Nat.le_trans hS.1 hz, fun q h1 h2 => by rw [hk q (Nat.lt_of_lt_of_le h1 hS.1) h2]; exact hS.2.1 q h1 h2, fun q hq => by
      rcases List.mem_append.mp hq with z | z
      · exact hS.2.2 q z
      · exact hL q z⟩ T' rfl X'
  exact ⟨t2, st t2 a1, b1⟩
theorem ce_blind {av : List Value} (hok : ce_Sok B0 St) : FrameBlind (va_Pc av (ce_Wd D ad cA B0 St h)) := by
  intro a U g mk q
  obtain ⟨q0, qP, qK, qB, qS⟩ := q
  exact ⟨q0, qP, va_K.moved (u := U) (U := U.calling g mk a) (Vm.Alike.refl U.vm) qK, qB, hok.2 U _ rfl rfl qS⟩
theorem ce_at {av : List Value} (hok : ce_Sok B0 St) (C : ce_Cx p s m args c meth cc nL ret own D ad cA B0 St) (hH : ce_H D ad cA B0 [] s h H locs) : ∀ U : State, U.heap = H → s.WarmedH U.vm → va_Pc av (ce_Wd D ad cA B0 St h) av.toArray U := by
  obtain ⟨hx, hb, hml, hown, hts, hK, hA, hB, -, -, hSt⟩ := C
  obtain ⟨hP, hD, hS⟩ := hH
  intro U hU hW
  exact ⟨rfl, by rw [hU]; exact hP, va_K.moved hW.alike hK, by rw [hU]; exact Nat.le_trans hB hS.1, hok.1 s U hW hSt (fun q q1 q2 => by rw [hU]; exact hS.2.1 q q1 q2)⟩
/-- a call of an instance method -/
theorem ce_callV (C : ce_Cx p s m args c meth cc nL ret own D ad cA B0 St) (hok : ce_Sok B0 St) (hH : ce_H D ad cA B0 [] s h H locs) {y : MethodName} {bytes : ByteArray} {maxL fr lo mc ms n idx k ci N : Nat} {rt : Option FieldType} {As : List Value} {cn : String} {ft : u_T} {sl : List (Option (Option Nat))} {rv : Option Value} {h' : Hp} {st0 : List Value}
    (hM : ce_Ct l D ad cA B0 St y bytes maxL rt fr lo mc ms (.ref (ad k) :: As) h rv h') (hk : k < 96) (hl : ce_lay k = .inr (ci, sl)) (hc : ce_cl[ci]? = some (cn, ft, N)) (hyc : y.cls = cn)
    (hcode : Cond.code y bytes maxL rt ∈ ce_cm) (hlink : Cond.methodLink own idx y ∈ ce_cm) (hinst : Cond.instanceMethod y ∈ ce_cm) (hsel : Cond.selects y.cls y y ∈ ce_cm) (hini : Cond.initialized y.cls ∈ ce_cm)
    (hd : y.cls ≠ "java/lang/invoke/MethodHandle" ∧ y.cls ≠ "java/lang/invoke/VarHandle" ∧ (parseMethodDescriptor y.desc).map (fun d => d.parameters.length) = some n) (hn : As.length = n) (hR : fr + 1 ≤ R.frames ∧ 8 + (maxL + 11) + lo ≤ R.locals) (hcs : cells + mc ≤ R.cells ∧ slots + ms ≤ R.slots)
    (hls : ls.size = nL) (hst : st0 = As.reverse ++ .ref (ad k) :: rest) (hW : (rest.map fun v => v.category).sum ≤ 8) (hdg : decode cc pc = .ok (.invokevirtual idx, 3))
    (kk : ∀ (H1 : Heap) (locs1 : List Loc), ce_H D ad cA B0 [] s h' H1 locs1 → W p l e R s m args below meth c H1 locs1 (cells + mc) (slots + ms) Q (F0 m (pc + 3) ls (rv.toList ++ rest))) : W p l e R s m args below meth c H locs cells slots Q (F0 m pc ls st0) := by
  have he := ce_wl_get ad cA h [] hk
  rw [hl] at he
  have hrec := va_recv C.2.2.2.2.2.1 hH.1 hc he
  have hts := C.2.2.2.2.1
  refine ce_back C hH (va_runV (As := As) (rest := rest) (n := n) (C := y.cls) ⟨C.1, C.2.1, C.2.2.1, C.2.2.2.1, hts⟩ hM ⟨callB_of n hts (ce_good hcode) rfl rfl rfl (hts _ hini) (hts _ hlink) hd hR, hts _ hinst, hts _ hsel⟩ ⟨ce_blind hok, by rw [hyc]; exact hrec, ce_at hok C hH⟩ rfl hn hls hst (lv_room hW) hdg hcs) kk
/-- a call of a static method of the same class -/
theorem ce_callS (C : ce_Cx p s m args c meth cc nL ret own D ad cA B0 St) (hok : ce_Sok B0 St) (hH : ce_H D ad cA B0 [] s h H locs) {y : MethodName} {bytes : ByteArray} {maxL fr lo mc ms n idx : Nat} {rt : Option FieldType} {As : List Value} {rv : Option Value} {h' : Hp} {st0 : List Value}
    (hM : ce_Ct l D ad cA B0 St y bytes maxL rt fr lo mc ms As h rv h')
    (hcode : Cond.code y bytes maxL rt ∈ ce_cm) (hlink : Cond.methodLink own idx y ∈ ce_cm) (hstat : Cond.static y ∈ ce_cm) (hini : Cond.initialized y.cls ∈ ce_cm)
    (hd : y.cls ≠ "java/lang/invoke/MethodHandle" ∧ y.cls ≠ "java/lang/invoke/VarHandle" ∧ (parseMethodDescriptor y.desc).map (fun d => d.parameters.length) = some n) (hn : As.length = n) (hR : fr + 1 ≤ R.frames ∧ 8 + (maxL + 11) + lo ≤ R.locals) (hcs : cells + mc ≤ R.cells ∧ slots + ms ≤ R.slots)
    (hls : ls.size = nL) (hst : st0 = As.reverse ++ rest) (hW : (rest.map fun v => v.category).sum ≤ 8) (hdg : decode cc pc = .ok (.invokestatic idx, 3))
    (kk : ∀ (H1 : Heap) (locs1 : List Loc), ce_H D ad cA B0 [] s h' H1 locs1 → W p l e R s m args below meth c H1 locs1 (cells + mc) (slots + ms) Q (F0 m (pc + 3) ls (rv.toList ++ rest))) : W p l e R s m args below meth c H locs cells slots Q (F0 m pc ls st0) := by
  have hts := C.2.2.2.2.1
  refine ce_back C hH (va_runS (As := As) (rest := rest) (n := n) ⟨C.1, C.2.1, C.2.2.1, C.2.2.2.1, hts⟩ hM ⟨callB_of n hts (ce_good hcode) rfl rfl rfl (hts _ hini) (hts _ hlink) hd hR, hts _ hstat⟩ ⟨ce_blind hok, ce_at hok C hH⟩ rfl hn hls hst (lv_room hW) hdg hcs) kk
/-- a call of a static method of a nest mate -/
theorem ce_callN (C : ce_Cx p s m args c meth cc nL ret own D ad cA B0 St) (hok : ce_Sok B0 St) (hH : ce_H D ad cA B0 [] s h H locs) {y : MethodName} {host : String} {bytes : ByteArray} {maxL fr lo mc ms n idx : Nat} {rt : Option FieldType} {As : List Value} {rv : Option Value} {h' : Hp} {st0 : List Value}
    (hM : ce_Ct l D ad cA B0 St y bytes maxL rt fr lo mc ms As h rv h')
    (hcode : Cond.code y bytes maxL rt ∈ ce_cm) (hlink : (Cond.methodLinkNest own idx y host).before args s = true) (hstat : Cond.static y ∈ ce_cm) (hini : Cond.initialized y.cls ∈ ce_cm)
    (hd : y.cls ≠ "java/lang/invoke/MethodHandle" ∧ y.cls ≠ "java/lang/invoke/VarHandle" ∧ (parseMethodDescriptor y.desc).map (fun d => d.parameters.length) = some n) (hn : As.length = n) (hR : fr + 1 ≤ R.frames ∧ 8 + (maxL + 11) + lo ≤ R.locals) (hcs : cells + mc ≤ R.cells ∧ slots + ms ≤ R.slots)
    (hls : ls.size = nL) (hst : st0 = As.reverse ++ rest) (hW : (rest.map fun v => v.category).sum ≤ 8) (hdg : decode cc pc = .ok (.invokestatic idx, 3))
    (kk : ∀ (H1 : Heap) (locs1 : List Loc), ce_H D ad cA B0 [] s h' H1 locs1 → W p l e R s m args below meth c H1 locs1 (cells + mc) (slots + ms) Q (F0 m (pc + 3) ls (rv.toList ++ rest))) : W p l e R s m args below meth c H locs cells slots Q (F0 m pc ls st0) := by
  have hts := C.2.2.2.2.1
  have hc : Cond.code y bytes maxL rt ∈ (Cond.code y bytes maxL rt :: ce_cm) := List.mem_cons_self
  refine ce_back C hH (va_runSN (As := As) (rest := rest) (n := n) (host := host) ⟨C.1, C.2.1, C.2.2.1, C.2.2.2.1, hts⟩ hM ⟨⟨⟨rfl, rfl, hR.1, hR.2, pay_in hts (ce_good hcode), hc⟩, hts _ hcode, hts _ hini, ⟨hd.1, hd.2.1⟩, fun sig z => ?_, hlink⟩, hts _ hstat, trivial⟩ ⟨ce_blind hok, ce_at hok C hH⟩ rfl hn hls hst (lv_room hW) hdg hcs) kk
  have h2 := hd.2.2
  rw [z] at h2
  exact (Option.some.inj h2).symm
end CE3
/-- loops -/
def ce_it {σ ρ : Type} (B : σ → Option (σ ⊕ ρ)) : Nat → σ → Option ρ
  | 0, _ => none
  | n + 1, x => match B x with
    | none => none
    | some (.inl y) => ce_it B n y
    | some (.inr r) => some r
theorem ce_bd {α β γ : Type} {x : Option α} {f : α → Option β} {g : β → Option γ} {r : γ} (h : Option.bind (Option.bind x f) g = some r) : ∃ y, x = some y ∧ Option.bind (f y) g = some r := by
  cases x with
  | none => cases h
  | some y => exact ⟨y, rfl, h⟩
theorem ce_gd {β γ : Type} {c : Prop} [Decidable c] {A : Option β} {g : β → Option γ} {r : γ} (h : Option.bind (if c then A else none) g = some r) : c ∧ Option.bind A g = some r := by
  by_cases hc : c
  · rw [if_pos hc] at h; exact ⟨hc, h⟩
  · rw [if_neg hc] at h; cases h
theorem ce_if1 {β γ : Type} {c : Prop} [Decidable c] {A B : Option β} {g : β → Option γ} {r : γ} (h : Option.bind (if c then A else B) g = some r) (hc : c) : Option.bind A g = some r := by rwa [if_pos hc] at h
theorem ce_if0 {β γ : Type} {c : Prop} [Decidable c] {A B : Option β} {g : β → Option γ} {r : γ} (h : Option.bind (if c then A else B) g = some r) (hc : ¬ c) : Option.bind B g = some r := by rwa [if_neg hc] at h
theorem ce_it_bd {σ ρ γ : Type} {B : σ → Option (σ ⊕ ρ)} {n : Nat} {x : σ} {g : ρ → Option γ} {r : γ} (h : Option.bind (ce_it B (n + 1) x) g = some r) : Option.bind (B x) (fun o => match o with | .inl y => Option.bind (ce_it B n y) g | .inr z => g z) = some r := by
  unfold ce_it at h
  cases hB : B x with
  | none => rw [hB] at h; cases h
  | some o =>
    rw [hB] at h
    cases o with
    | inl y => exact h
    | inr z => exact h
theorem ce_as {α β γ : Type} {x : Option α} {f : α → Option β} {g : β → Option γ} {r : γ} (h : Option.bind (Option.bind x f) g = some r) : Option.bind x (fun o => Option.bind (f o) g) = some r := by
  cases x with
  | none => cases h
  | some y => exact h
def ce_nm {α β : Type} (v : α) (f : α → β) : β := f v
theorem ce_nmE {α β γ : Type} {v : α} {f : α → Option β} {g : β → Option γ} {r : γ} (h : Option.bind (ce_nm v f) g = some r) : ∃ x, x = v ∧ Option.bind (f x) g = some r := ⟨v, rfl, h⟩
def ce_in (i : Int32) (n : Nat) : Bool := decide (0 ≤ i) && decide (i.toNatClampNeg < n)
theorem ce_in_vp {i : Int32} {n : Nat} (h : ce_in i n = true) : vp_in i n := by
  simp only [ce_in, Bool.and_eq_true, decide_eq_true_eq] at h
  rintro (q | q)
  · have h1 := Int32.le_iff_toInt_le.mp h.1
    have h2 := Int32.lt_iff_toInt_lt.mp q
    omega
  · omega
theorem ce_zw {β γ : Type} {o : β} {g : β → Option γ} {r : γ} (h : Option.bind (some o) g = some r) : g o = some r := h
abbrev ce_isNet (k : Nat) : Prop := k = 7 ∨ k = 14
abbrev ce_isTold (k : Nat) : Prop := k = 21 ∨ k = 28
abbrev ce_isEl (k : Nat) : Prop := k = 48 ∨ k = 55
/-- a switch behind its rows -/
theorem ce_tblOut {x : Int32} {n : Nat} (h : ∀ i : Nat, i < n → ¬ x = Int32.ofNat i) (hn : n < 2147483648) : x.toInt < 0 ∨ ((n : Int) - 1) < x.toInt := by
  rcases Int.lt_or_le x.toInt 0 with q | q
  · exact Or.inl q
  · rcases Int.lt_or_le ((n : Int) - 1) x.toInt with z | z
    · exact Or.inr z
    · exfalso
      refine h x.toInt.toNat (by omega) ?_
      apply Int32.toInt_inj.mp
      rw [Int32.toInt_ofNat_of_lt (by omega)]
      omega
