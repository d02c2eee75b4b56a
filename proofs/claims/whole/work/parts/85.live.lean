-- what stands between two calls, as far as the net goes
def OkN (m : Nat → Nat) : Prop := OkG m ∧ OkB m ∧ m 0 ≤ 20 ∧ (∀ v, v < m 2 → m (15 + v) ≤ 1) ∧ m 3 ≤ 700 ∧ m 4 ≤ 20 ∧ (m 3 = 0 → m 2 = 0 ∧ m 4 = 0)
noncomputable def sM (m : Nat → Nat) : Es := rM (og m) m (wtm m) (m 2) 700
noncomputable def NetR (h : Hp) (kn : Nat) (m : Nat → Nat) : Prop := CNw h kn m ∧ h kn 0 = nI (m 3) ∧ h kn 1 = nI (m 0) ∧ h kn 4 = nI (ct (fun e => bo (og m e ≠ 0)) 40 / 2) ∧ (∀ v, v < m 2 → h (kn + 2) v = nI (m (15 + v))) ∧ CC h kn m
def Liv (h : Hp) (m : Nat → Nat) : Prop := CB h m ∧ CF h 48 m (sM m) (mu (og m) (sM m)) ∧ NM h m (Pf m (sM m)) (Rf m (sM m))
def Co (h : Hp) (m : Nat → Nat) (kn : Nat) : Prop := h 0 2 = nI kn ∧ ce_isNet kn ∧ OkN m ∧ MN h m ∧ NetR h kn m ∧ ((m 3 = 0 ∧ h 44 0 = nI 0 ∧ h 44 1 = nI 0) ∨ Liv h m)
/-- only what is laid anew each time has changed -/
def Sc (h h' : Hp) : Prop := (∀ c, (c < 40 ∨ (43 < c ∧ c < 55) ∨ (61 < c ∧ c < 65) ∨ c = 69 ∨ c = 71 ∨ c = 72 ∨ c = 86 ∨ c = 87 ∨ c = 90 ∨ c = 91 ∨ c = 92) → h' c = h c) ∧ ∀ j, (j = 4 ∨ j = 5 ∨ j = 6 ∨ j = 29) → h' 68 j = h 68 j
theorem Sc.refl (h : Hp) : Sc h h := ⟨fun _ _ => rfl, fun _ _ => rfl⟩
theorem Sc.trans {h1 h2 h3 : Hp} (a : Sc h1 h2) (b : Sc h2 h3) : Sc h1 h3 := ⟨fun c hc => (b.1 c hc).trans (a.1 c hc), fun j hj => (b.2 j hj).trans (a.2 j hj)⟩
theorem Fr.sc {lo hi : Nat} {h h' : Hp} (f : Fr lo hi h h') (hl : (40 ≤ lo ∧ hi ≤ 43) ∨ (55 ≤ lo ∧ hi ≤ 61) ∨ (65 ≤ lo ∧ hi ≤ 67) ∨ (73 ≤ lo ∧ hi ≤ 85) ∨ (94 ≤ lo ∧ hi ≤ 95)) : Sc h h' := ⟨fun c hc => f c (by omega), fun j hj => by rw [f 68 (by omega)]⟩
theorem CNw.eqv {h h' : Hp} {k : Nat} {m : Nat → Nat} (hk : ce_isNet k) (c : CNw h k m) (f : ∀ q, q < 40 → h' q = h q) : CNw h' k m := by
  have b := net_le hk
  obtain ⟨a1, a2, a3, a4, a5⟩ := c
  exact ⟨by rw [f _ (by omega)]; exact a1, by rw [f _ (by omega)]; exact a2, fun v hv => by rw [f _ (by omega)]; exact a3 v hv, fun e he => by rw [f _ (by omega)]; exact a4 e he, fun e he h0 => by rw [f _ (by omega)]; exact a5 e he h0⟩
theorem NetR.eqv {h h' : Hp} {k : Nat} {m : Nat → Nat} (hk : ce_isNet k) (c : NetR h k m) (f : ∀ q, q < 40 → h' q = h q) : NetR h' k m := by
  have b := net_le hk
  obtain ⟨a1, a2, a3, a4, a5, a6⟩ := c
  exact ⟨a1.eqv hk f, by rw [f _ (by omega)]; exact a2, by rw [f _ (by omega)]; exact a3, by rw [f _ (by omega)]; exact a4, fun v hv => by rw [f _ (by omega)]; exact a5 v hv, fun v hv => by rw [f (k + 4) (by omega), f (k + 3) (by omega)]; exact a6 v hv⟩
theorem Liv.eqv {h h' : Hp} {m : Nat → Nat} (l : Liv h m) (f : ∀ q, (43 < q ∧ q < 55) ∨ (61 < q ∧ q < 65) → h' q = h q) : Liv h' m := by
  obtain ⟨⟨b1, b2, b3, b4⟩, c, d⟩ := l
  refine ⟨⟨by rw [f 44 (by omega)]; exact b1, by rw [f 44 (by omega)]; exact b2, by rw [f 45 (by omega)]; exact b3, by rw [f 46 (by omega), f 47 (by omega)]; exact b4⟩, fun v hv => ?_, fun r hr hR => ?_⟩
  · rw [f (48 + 1) (by omega), f (48 + 2) (by omega), f (48 + 3) (by omega), f (48 + 4) (by omega)]
    exact c v hv
  · rw [f 63 (by omega), f 64 (by omega)]
    exact d r hr hR
theorem Co.sc {h h' : Hp} {m : Nat → Nat} {kn : Nat} (c : Co h m kn) (f : Sc h h') : Co h' m kn := by
  obtain ⟨a1, a2, a3, a4, a5, a6⟩ := c
  refine ⟨by rw [f.1 0 (by omega)]; exact a1, a2, a3, fun j hj => by rw [f.1 69 (by omega)]; exact a4 j hj, a5.eqv a2 (fun q hq => f.1 q (by omega)), ?_⟩
  rcases a6 with ⟨q1, q2, q3⟩ | l
  · exact Or.inl ⟨q1, by rw [f.1 44 (by omega)]; exact q2, by rw [f.1 44 (by omega)]; exact q3⟩
  · exact Or.inr (l.eqv (fun q hq => f.1 q (by omega)))
theorem Co.cs {h : Hp} {m : Nat → Nat} {kn : Nat} (c : Co h m kn) (l : Liv h m) : CS h kn m := ⟨c.1, c.2.1, c.2.2.2.2.1.1, l.1⟩
theorem Co.liv {h : Hp} {m : Nat → Nat} {kn : Nat} (c : Co h m kn) {v : Nat} (hv : v < m 2) : Liv h m := by
  rcases c.2.2.2.2.2 with ⟨q1, q2, q3⟩ | l
  · have := (c.2.2.1.2.2.2.2.2.2 q1).1
    omega
  · exact l
theorem wtm_le {m : Nat → Nat} (h : m 0 ≤ 20) : ∀ v, v < 10 → wtm m v ≤ 20 := fun v _ => by
  unfold wtm
  by_cases z : m (15 + v) = 0
  · rw [if_pos z]; omega
  · rw [if_neg z]; exact h
theorem FS_of {m wt : Nat → Nat} (ok : OkG m) (hw : ∀ v, v < 10 → wt v ≤ 20) : FS m wt (rM (og m) m wt (m 2) 700) := ⟨ok, EM_e (wt := wt) ok 699, quiet ok hw⟩
theorem FS.rlt {m wt : Nat → Nat} {s : Es} (fs : FS m wt s) {v : Nat} (hv : v < 10) (h : Rf m s v ≠ 0) : v < m 2 := by
  apply Classical.byContradiction
  intro z
  obtain ⟨a, b, c⟩ := fs.2.1.2.2.2.2.2.2.2.2.1 v (by omega)
  rcases Rf_c.mp h with q | ⟨q, -⟩
  · exact q c
  · exact fs.2.1.s2 hv (mu_t.mp q).1 a
theorem FS.rle {m wt : Nat → Nat} {s : Es} (fs : FS m wt s) {v : Nat} (hv : v < 10) : Rf m s v < 100000 := by
  unfold Rf Rd
  by_cases z : mu (og m) s v = true ∧ wno (og m) m s (el (og m) s v) = v
  · rw [if_pos z]
    obtain ⟨e, q1, q2, q3, q4⟩ := mu_el fs.1.2.2.2.1 fs.2.1 hv z.1
    rw [q1]
    have bd := (cw_bd (bt m (e / 4)) (bt m ((og m e - 1) / 4)) (m (85 + e)) 10 0 (max (s 0 e - 1) (s 0 (og m e - 1) - 1))).1
    have hCW : cw (bt m (e / 4)) (bt m ((og m e - 1) / 4)) (m (85 + e)) 10 0 (max (s 0 e - 1) (s 0 (og m e - 1) - 1)) = CWe (og m) m s e := rfl
    rw [hCW] at bd
    have t0 := fs.2.1.2.2.2.2.2.2.1 e q2
    have hog := og_le fs.1.2.2.2.1 q2
    have t1 := fs.2.1.2.2.2.2.2.2.1 (og m e - 1) (by omega)
    have l9 := (fs.1.2.2.2.2 e q2 q3).2.2.2.1
    omega
  · rw [if_neg z]
    have := fs.2.1.b4 hv
    omega
theorem FS.po {m wt : Nat → Nat} {s : Es} (fs : FS m wt s) : PO (og m) (Pf m s) := fun v hv h => Pf_ok fs hv h
theorem RT_of {m wt : Nat → Nat} {s : Es} (fs : FS m wt s) : RT m (Pf m s) (Rf m s) := by
  have h2 := fs.1.2.1
  have g := fs.1.2.2.2.1
  refine ⟨fun r hr hR => ?_, fun r r' hr hr' hR hR' hc => root_one fs (by omega) hR hR' hc, fun a ha => ?_⟩
  · obtain ⟨hp, dy, bf, pe⟩ := root_pe fs hr hR
    refine ⟨hp, g, fs.po, by omega, Pf_z fs (by omega) hR, bf.1, fun v hv hc => ?_, fun v hv hc hn => ?_⟩
    · have a := (bf.2.2.1 v hv).mpr hc
      have b := (bf.2.2.2.1 v hv).1
      omega
    · refine ⟨?_, (pe v hv hc hn).2.2.2.2.1⟩
      rcases (Rc_all fs hR hc).cases with z | z
      · exact absurd z hn
      · exact z.1
  · by_cases z : sz (og m) a ≤ cb (og m) a
    · refine Or.inr ⟨z, fun r hc => ?_⟩
      apply Classical.byContradiction
      intro hR
      have hr := cn_lt fs.1 hc ha
      have := root_tree fs (by omega) hR
      rw [← sz_eq g hc, ← cb_eq g hc] at this
      exact this z
    · exact Or.inl (root_ex fs ha z)
/-- an asked node in a tree -/
def Tf (m : Nat → Nat) (v r : Nat) (hp : Nat → Nat) : Prop := v < m 2 ∧ r < m 2 ∧ Cn (og m) r v ∧ Rf m (sM m) r ≠ 0 ∧ Tr (og m) (Pf m (sM m)) r hp ∧ fi (rq m (Rf m (sM m)) v) 10 = r + 1 ∧ ¬ sz (og m) v ≤ cb (og m) v
theorem Tf_of {m : Nat → Nat} (on : OkN m) {v : Nat} (hv : v < m 2) (tr : ¬ sz (og m) v ≤ cb (og m) v) : ∃ r hp, Tf m v r hp := by
  have fs := FS_of on.1 (wtm_le on.2.2.1)
  rcases rt_fi on.1 (RT_of fs) hv with ⟨r, hp, a1, a2, a3, a4, a5⟩ | ⟨a1, a2⟩
  · exact ⟨r, hp, hv, a1, a2.symm on.1.2.2.2.1, a3, a4, a5, tr⟩
  · exact absurd a1 tr
theorem x_whyNot {m : Nat → Nat} {kn v F : Nat} {h : Hp} (c : Co h m kn) (hv : v < m 2) (hF : 1000 ≤ F) : Ev (f12_whyNot F (nI v) h) (fun o => o.1 = (if sz (og m) v ≤ cb (og m) v then mm else nI 0) ∧ Sc h o.2 ∧ MF o.2 m (sM m) ∧ Lb o.2 m) := by
  obtain ⟨ok, ob, o0, of, o3, o4, o5⟩ := id c.2.2.1
  have cm := c.2.2.2.1
  unfold f12_whyNot
  rw [x_isNode (nI v) ok.2.1 cm, isN_t hv]
  refine ev_bs ?_
  dsimp only
  refine Ev.neg (by rw [if_pos rfl]; decide) (Ev.bind (x_runs ok ob o0 of cm hF) (fun h1 hh => ?_))
  obtain ⟨f1, mf⟩ := hh
  refine Ev.bind (x_isLoop ok (cm.fr f1 (by omega)) hv hF) (fun o ho => ?_)
  obtain ⟨o1, f2, lb⟩ := ho
  have mf2 : MF o.2 m (sM m) := fun u hu => by
    rw [f2 77 (by omega), f2 80 (by omega), f2 81 (by omega), f2 82 (by omega)]
    exact mf u hu
  have s2 : Sc h o.2 := (f1.sc (by omega)).trans (f2.sc (by omega))
  by_cases z : sz (og m) v ≤ cb (og m) v
  · refine Ev.neg (by rw [o1, if_pos z]; decide) (Ev.some ⟨?_, s2, mf2, lb⟩)
    rw [if_pos z]
    rfl
  · refine Ev.pos (by rw [o1, if_neg z]; rfl) (Ev.some ⟨?_, s2, mf2, lb⟩)
    rw [if_neg z]
    rfl
theorem x_whyNot0 {m : Nat → Nat} {kn F : Nat} {h : Hp} {x : Int32} (c : Co h m kn) (hv : isN m x = false) : f12_whyNot F x h = some (-2, h) := by
  refine Ev.eq ?_
  unfold f12_whyNot
  rw [x_isNode x c.2.2.1.1.2.1 c.2.2.2.1, hv]
  refine ev_bs ?_
  exact Ev.pos rfl (Ev.some rfl)
theorem x_refusal {m : Nat → Nat} {kn v F : Nat} {h : Hp} (c : Co h m kn) (hv : v < m 2) : f11_refusalOf F (nI v) h = some (if sz (og m) v ≤ cb (og m) v then mm else nI 0, h) := by
  have l := c.liv hv
  have cs := c.cs l
  have b := net_le c.2.1
  refine Ev.eq ?_
  unfold f11_refusalOf
  refine Ev.nm ?_
  rw [c.1, ni_cl (by omega)]
  refine Ev.grd c.2.1 ?_
  rw [x_hasNode (nI v) c.2.2.1.1.2.1 cs.2.2.1.2.1, isN_t hv]
  refine ev_bs ?_
  dsimp only
  refine Ev.neg (by rw [if_pos rfl]; decide) ?_
  rw [x_hasLoop c.2.2.1.1 cs hv]
  refine ev_bs ?_
  dsimp only
  by_cases z : sz (og m) v ≤ cb (og m) v
  · refine Ev.neg (by rw [if_pos z]; decide) (Ev.some ?_)
    rw [if_pos z]
    rfl
  · refine Ev.pos (by rw [if_neg z]; rfl) (Ev.some ?_)
    rw [if_neg z]
    rfl
theorem x_refusal0 {m : Nat → Nat} {kn F : Nat} {h : Hp} {x : Int32} (c : Co h m kn) (hv : isN m x = false) : f11_refusalOf F x h = some (-2, h) := by
  have b := net_le c.2.1
  refine Ev.eq ?_
  unfold f11_refusalOf
  refine Ev.nm ?_
  rw [c.1, ni_cl (by omega)]
  refine Ev.grd c.2.1 ?_
  rw [x_hasNode x c.2.2.1.1.2.1 c.2.2.2.2.1.1.2.1, hv]
  refine ev_bs ?_
  exact Ev.pos rfl (Ev.some rfl)
theorem isN_ex {m : Nat → Nat} {x : Int32} (h : ¬ isN m x = false) : ∃ v, v < m 2 ∧ x = nI v := by
  cases q : isN m x with
  | false => exact absurd q h
  | true => exact bo_t.mp q
/-- both answer alike, and leave the rest as it was -/
def Gd (a b : Hp → Option (Int32 × Hp)) : Prop := ∀ m kn, ∃ V : Int32, (∀ h, Co h m kn → Ev (a h) (fun o => o.1 = V ∧ Sc h o.2)) ∧ ∀ h, Co h m kn → Ev (b h) (fun o => o.1 = V ∧ Sc h o.2)
theorem cn2 : ¬ (-2 : Int32) = 0 := by decide
theorem cn2' : ¬ (0 : Int32) ≤ -2 := by decide
theorem cmm : ¬ mm = 0 := by decide
theorem cmm' : ¬ (0 : Int32) ≤ mm := by decide
theorem gd_ref {F : Nat} {x : Int32} {a b A B : Hp → Option (Int32 × Hp)} (hF : 1000 ≤ F) (ea : ∀ h, a h = Option.bind (f11_refusalOf F x h) (fun o2 => if o2.1 = 0 then A o2.2 else some (o2.1, o2.2))) (eb : ∀ h, b h = Option.bind (f12_whyNot F x h) (fun o2 => if 0 ≤ o2.1 then B o2.2 else some (o2.1, o2.2)))
    (body : ∀ m kn v r hp, OkN m → x = nI v → Tf m v r hp → ∃ V : Int32, (∀ h, Co h m kn → Liv h m → Ev (A h) (fun o => o.1 = V ∧ Sc h o.2)) ∧ ∀ h, Co h m kn → MF h m (sM m) → Lb h m → Ev (B h) (fun o => o.1 = V ∧ Sc h o.2)) : Gd a b := by
  intro m kn
  by_cases on : OkN m
  rotate_left
  · exact ⟨0, fun h c => absurd c.2.2.1 on, fun h c => absurd c.2.2.1 on⟩
  by_cases nx : isN m x = false
  · refine ⟨-2, fun h c => ?_, fun h c => ?_⟩
    · rw [ea, x_refusal0 c nx]
      exact ev_bs (Ev.neg cn2 (Ev.some ⟨rfl, Sc.refl _⟩))
    · rw [eb, x_whyNot0 c nx]
      exact ev_bs (Ev.neg cn2' (Ev.some ⟨rfl, Sc.refl _⟩))
  · obtain ⟨v, hv, rfl⟩ := isN_ex nx
    by_cases z : sz (og m) v ≤ cb (og m) v
    · refine ⟨mm, fun h c => ?_, fun h c => ?_⟩
      · rw [ea, x_refusal c hv, if_pos z]
        exact ev_bs (Ev.neg cmm (Ev.some ⟨rfl, Sc.refl _⟩))
      · rw [eb]
        refine Ev.bind (x_whyNot c hv hF) (fun o ho => ?_)
        rw [if_pos z] at ho
        exact Ev.neg (by rw [ho.1]; decide) (Ev.some ⟨ho.1, ho.2.1⟩)
    · obtain ⟨r, hp, tf⟩ := Tf_of on hv z
      obtain ⟨V, v1, v2⟩ := body m kn v r hp on rfl tf
      refine ⟨V, fun h c => ?_, fun h c => ?_⟩
      · rw [ea, x_refusal c hv, if_neg z]
        exact ev_bs (Ev.pos rfl (v1 h c (c.liv hv)))
      · rw [eb]
        refine Ev.bind (x_whyNot c hv hF) (fun o ho => ?_)
        rw [if_neg z] at ho
        refine Ev.pos (by rw [ho.1]; decide) (Ev.mono (v2 o.2 (c.sc ho.2.1) ho.2.2.1 ho.2.2.2) (fun p hp' => ⟨hp'.1, ho.2.1.trans hp'.2⟩))
