-- asking: sets as bits; who is heard first, as numbers
theorem set_s : ∀ c : Fin 1024, ∀ r : Fin 10, ((nI c.val) >>> ((nI r.val) &&& 31)) &&& (1 : Int32) = nI (c.val / 2 ^ r.val % 2) := by decide +kernel
theorem set_u : ∀ c : Fin 1024, ∀ r : Fin 10, (ce_ushr (nI c.val) (nI r.val)) &&& (1 : Int32) = nI (c.val / 2 ^ r.val % 2) := by decide +kernel
def inS (c v : Nat) : Bool := decide (c / 2 ^ v % 2 = 1)
theorem inS_t {c v : Nat} : (inS c v = true) = (c / 2 ^ v % 2 = 1) := by unfold inS; simp
theorem x_has {c v F : Nat} {h : Hp} (hc : c < 1024) (hv : v < 10) : f12_has F (nI c) (nI v) h = some (if inS c v = true then nI 1 else nI 0, h) := by
  refine Ev.eq ?_
  unfold f12_has
  have e := set_s ⟨c, hc⟩ ⟨v, hv⟩
  dsimp only at e
  have hm : c / 2 ^ v % 2 < 2 := Nat.mod_lt _ (by omega)
  by_cases z : c / 2 ^ v % 2 = 1
  · refine Ev.pos (by rw [e, z]; rfl) (Ev.some ?_)
    rw [if_pos (inS_t.mpr z)]
    rfl
  · refine Ev.neg (by rw [e, l32_1, ni_eq (by omega) (by omega)]; exact z) (Ev.some ?_)
    rw [if_neg (fun q => z (inS_t.mp q))]
    rfl
theorem x_holds {c v F : Nat} {h : Hp} (hc : c < 1024) (hv : v < 10) : f11_holds F (nI c) (nI v) h = some (if inS c v = true then nI 1 else nI 0, h) := by
  refine Ev.eq ?_
  unfold f11_holds
  have e := set_u ⟨c, hc⟩ ⟨v, hv⟩
  dsimp only at e
  have hm : c / 2 ^ v % 2 < 2 := Nat.mod_lt _ (by omega)
  by_cases z : c / 2 ^ v % 2 = 1
  · refine Ev.pos (by rw [e, z]; rfl) (Ev.some ?_)
    rw [if_pos (inS_t.mpr z)]
    rfl
  · refine Ev.neg (by rw [e, l32_1, ni_eq (by omega) (by omega)]; exact z) (Ev.some ?_)
    rw [if_neg (fun q => z (inS_t.mp q))]
    rfl
/-- a child's word comes in -/
def ast (dl L w v : Nat) (a cur : Nat × Nat) : Nat × Nat := if a.1 = 0 then cur else if cur.1 = 0 ∨ (a.2 + (if a.1 = w + 1 then 0 else dl) + L < cur.2 ∧ cur.1 ≠ v + 1) then (a.1, a.2 + (if a.1 = w + 1 then 0 else dl) + L) else cur
def ak (m P : Nat → Nat) (c : Nat) (g : Nat → Nat × Nat) (v : Nat) : Nat → Nat × Nat
  | 0 => (if inS c v = true then v + 1 else 0, 0)
  | p + 1 => if ch (og m) P (4 * v + p) = true then ast (m 1) (m (85 + (4 * v + p))) ((og m (4 * v + p) - 1) / 4) v (g ((og m (4 * v + p) - 1) / 4)) (ak m P c g v p) else ak m P c g v p
theorem ak_s (m P : Nat → Nat) (c : Nat) (g : Nat → Nat × Nat) (v p : Nat) : ak m P c g v (p + 1) = if ch (og m) P (4 * v + p) = true then ast (m 1) (m (85 + (4 * v + p))) ((og m (4 * v + p) - 1) / 4) v (g ((og m (4 * v + p) - 1) / 4)) (ak m P c g v p) else ak m P c g v p := rfl
def aw (m P : Nat → Nat) (c : Nat) : Nat → Nat → Nat × Nat
  | 0, _ => (0, 0)
  | f + 1, v => ak m P c (aw m P c f) v 4
theorem aw_s (m P : Nat → Nat) (c f v : Nat) : aw m P c (f + 1) v = ak m P c (aw m P c f) v 4 := rfl
theorem ast_bd {dl L w v : Nat} {a cur : Nat × Nat} {N : Nat} (h1 : dl ≤ 9) (h2 : L ≤ 9) (ha : a.1 ≤ 10 ∧ a.2 ≤ N) (hc : cur.1 ≤ 10 ∧ cur.2 ≤ N + 18) : (ast dl L w v a cur).1 ≤ 10 ∧ (ast dl L w v a cur).2 ≤ N + 18 := by
  unfold ast
  have q : (if a.1 = w + 1 then 0 else dl) ≤ 9 := by by_cases z : a.1 = w + 1 <;> simp only [z, if_true, if_false] <;> omega
  generalize (if a.1 = w + 1 then 0 else dl) = x at q ⊢
  by_cases z : a.1 = 0
  · rw [if_pos z]; exact hc
  · rw [if_neg z]
    by_cases y : cur.1 = 0 ∨ (a.2 + x + L < cur.2 ∧ cur.1 ≠ v + 1)
    · rw [if_pos y]; exact ⟨ha.1, by dsimp only; omega⟩
    · rw [if_neg y]; exact hc
theorem ak_bd {m P : Nat → Nat} {c : Nat} {g : Nat → Nat × Nat} {v N : Nat} (ok : OkG m) (hv : v < 10) (hg : ∀ w, w < 10 → (g w).1 ≤ 10 ∧ (g w).2 ≤ N) : ∀ p, p ≤ 4 → (ak m P c g v p).1 ≤ 10 ∧ (ak m P c g v p).2 ≤ N + 18 := by
  intro p
  induction p with
  | zero =>
    intro _
    show (if inS c v = true then v + 1 else 0) ≤ 10 ∧ 0 ≤ N + 18
    refine ⟨?_, by omega⟩
    by_cases z : inS c v = true
    · rw [if_pos z]; omega
    · rw [if_neg z]; omega
  | succ p ih =>
    intro hp
    have I := ih (by omega)
    rw [ak_s]
    by_cases z : ch (og m) P (4 * v + p) = true
    · have h0 := (ch_t.mp z).1
      have hog := og_le ok.2.2.2.1 (e := 4 * v + p) (by omega)
      have l9 := (ok.2.2.2.2 (4 * v + p) (by omega) h0).2.2.2.1
      rw [if_pos z]
      exact ast_bd ok.1 l9 (hg _ (by omega)) I
    · rw [if_neg z]; exact I
theorem aw_bd {m P : Nat → Nat} {c : Nat} (ok : OkG m) : ∀ f v, v < 10 → (aw m P c f v).1 ≤ 10 ∧ (aw m P c f v).2 ≤ 18 * f := by
  intro f
  induction f with
  | zero => intro v _; exact ⟨Nat.zero_le _, Nat.zero_le _⟩
  | succ f ih =>
    intro v hv
    rw [aw_s]
    exact ak_bd ok hv ih 4 (Nat.le_refl _)
def FrA (o P hp : Nat → Nat) (r v : Nat) (h h' : Hp) : Prop := (∀ c, c ≠ 94 → c ≠ 95 → h' c = h c) ∧ ∀ w, ¬ (Cn o r w ∧ bl o P hp v w) → h' 94 w = h 94 w ∧ h' 95 w = h 95 w
theorem x_asks {m P : Nat → Nat} {r c F : Nat} {hp : Nat → Nat} (ok : OkG m) (T : Tr (og m) P r hp) (hc : c < 1024) (hF : 1000 ≤ F) : ∀ d v h, d ≤ 12 → Cn (og m) r v → 11 ≤ hp v + d → MN h m → (∀ v, v < m 2 → h 82 v = fr (P v)) → Ev (f12_asks F d (nI v) (nI c) h) (fun h' => FrA (og m) P hp r v h h' ∧ h' 94 v = fr (aw m P c d v).1 ∧ h' 95 v = nI (aw m P c d v).2) := by
  intro d
  induction d with
  | zero =>
    intro v h _ hv hd
    have := (T.2.2.2.2.2.1 v (T.lt hv) hv).2
    omega
  | succ d ih =>
    intro v h hd12 hv hd cm cp
    have hv10 := T.lt hv
    have po := T.2.1
    have e1 : (4 : Int32) * nI v = nI (4 * v) := by rw [l32_4, ni_mul]
    have e2 : nI (4 * v) + (4 : Int32) = nI (4 * v + 4) := by rw [l32_4, nI_add]
    have bd := fun p hp4 => ak_bd (P := P) (c := c) ok hv10 (aw_bd (P := P) (c := c) ok d) p hp4
    have main : ∀ h1 : Hp, (∀ q, q ≠ 94 → q ≠ 95 → h1 q = h q) → (∀ w, w ≠ v → h1 94 w = h 94 w ∧ h1 95 w = h 95 w) → h1 94 v = fr (ak m P c (aw m P c d) v 0).1 → h1 95 v = nI (ak m P c (aw m P c d) v 0).2 → Ev (ce_it (fun (st : Int32 × Hp) => f12_asks_b30 F (f12_asks F d) (nI v) (nI c) st.1 st.2) F (nI (4 * v), h1)) (fun h' => FrA (og m) P hp r v h h' ∧ h' 94 v = fr (aw m P c (d + 1) v).1 ∧ h' 95 v = nI (aw m P c (d + 1) v).2) := by
      intro h1 k1 k2 k3 k4
      refine Ev.it (I := fun p s => s.1 = nI (4 * v + p) ∧ FrA (og m) P hp r v h s.2 ∧ s.2 94 v = fr (ak m P c (aw m P c d) v p).1 ∧ s.2 95 v = nI (ak m P c (aw m P c d) v p).2) _ 4 ?_ F 0 _ (by omega) (by omega) ⟨rfl, ⟨k1, fun w hw => k2 w (fun z => hw (by rw [z]; exact ⟨hv, bl_self _ _ _ _⟩))⟩, k3, k4⟩
      rintro p ⟨x, h2⟩ hp4 hI
      obtain ⟨rfl, f2, r3, r4⟩ : x = nI (4 * v + p) ∧ FrA (og m) P hp r v h h2 ∧ h2 94 v = fr (ak m P c (aw m P c d) v p).1 ∧ h2 95 v = nI (ak m P c (aw m P c d) v p).2 := hI
      show Ev (f12_asks_b30 F (f12_asks F d) (nI v) (nI c) (nI (4 * v + p)) h2) _
      have c2 : MN h2 m := fun j hj => by rw [f2.1 69 (by omega) (by omega)]; exact cm j hj
      have cp2 : ∀ v, v < m 2 → h2 82 v = fr (P v) := fun v hv => by rw [f2.1 82 (by omega) (by omega)]; exact cp v hv
      have nxt : nI (4 * v + p) + 1 = nI (4 * v + (p + 1)) := nI_1 _
      unfold f12_asks_b30
      rw [e1, e2]
      by_cases hin : 4 ≤ p
      · refine Ev.pos (by simp (disch := omega) only [up_s, up_k, up_j, mm_neg, mm_def, ni_lt, ni_le, ni_eq, ni_mm, mm_ni, ni_lt_mm, ni_le_mm, mm_lt_ni, mm_le_ni, mm_lt_mm, mm_le_mm, ni_cl, ni_in, nI_add, ni_mul, ni_div, ni_rem, ni_rem2, fr_sub, fr_mm, fr_ge0, fr_lt0, fr_inj, l32_0, l32_1, l32_2, l32_3, l32_4, l32_5, l32_6, l32_7, l32_8, l32_9, l32_10, l32_11, l32_12, l32_13, l32_14, l32_15, l32_16, l32_20, l32_24, l32_25, l32_26, l32_31, l32_32, l32_34, l32_35, l32_39, l32_40, l32_44, l32_45, l32_46, l32_47, l32_48, l32_49, l32_57, l32_58, l32_59, l32_63, l32_64, l32_85, l32_90, l32_97, l32_99, l32_100, l32_110, l32_112, l32_122, l32_124, l32_125, l32_255, l32_680, l32_699, l32_700, l32_999, l32_2500, l32_99999, l32_100000, l32_1000000, if_true, if_false, ite_true, ite_false, ce_nm, Option.bind, if_pos, if_neg]; omega) (Ev.some ⟨f2, ?_, ?_⟩)
        · have : p = 4 := by omega
          rw [this] at r3
          exact r3
        · have : p = 4 := by omega
          rw [this] at r4
          exact r4
      · refine Ev.neg (by simp (disch := omega) only [up_s, up_k, up_j, mm_neg, mm_def, ni_lt, ni_le, ni_eq, ni_mm, mm_ni, ni_lt_mm, ni_le_mm, mm_lt_ni, mm_le_ni, mm_lt_mm, mm_le_mm, ni_cl, ni_in, nI_add, ni_mul, ni_div, ni_rem, ni_rem2, fr_sub, fr_mm, fr_ge0, fr_lt0, fr_inj, l32_0, l32_1, l32_2, l32_3, l32_4, l32_5, l32_6, l32_7, l32_8, l32_9, l32_10, l32_11, l32_12, l32_13, l32_14, l32_15, l32_16, l32_20, l32_24, l32_25, l32_26, l32_31, l32_32, l32_34, l32_35, l32_39, l32_40, l32_44, l32_45, l32_46, l32_47, l32_48, l32_49, l32_57, l32_58, l32_59, l32_63, l32_64, l32_85, l32_90, l32_97, l32_99, l32_100, l32_110, l32_112, l32_122, l32_124, l32_125, l32_255, l32_680, l32_699, l32_700, l32_999, l32_2500, l32_99999, l32_100000, l32_1000000, if_true, if_false, ite_true, ite_false, ce_nm, Option.bind, if_pos, if_neg]; omega) ?_
        rw [x_isChild ok c2 po cp2 (by omega)]
        refine ev_bs ?_
        dsimp only
        have ps := ak_s m P c (aw m P c d) v p
        cases hch : ch (og m) P (4 * v + p) with
        | false =>
          rw [hch, if_neg (by simp)] at ps
          refine Ev.pos (by rw [if_neg (by simp)]; rfl) (Ev.some ⟨by omega, nxt, f2, ?_, ?_⟩)
          · dsimp only; rw [ps]; exact r3
          · dsimp only; rw [ps]; exact r4
        | true =>
          rw [hch, if_pos rfl] at ps
          have ev : (4 * v + p) / 4 = v := by omega
          obtain ⟨c1', c2', c3', c4', c5'⟩ := T.chn (e := 4 * v + p) (by omega) (by rw [ev]; exact hv) hch
          rw [ev] at c3' c4'
          have h0 := (ch_t.mp hch).1
          have hog := og_le ok.2.2.2.1 (e := 4 * v + p) (by omega)
          have l9 := (ok.2.2.2.2 (4 * v + p) (by omega) h0).2.2.2.1
          have d9 := ok.1
          refine Ev.neg (by rw [if_pos rfl]; decide) ?_
          rw [x_otherN c2 (by omega) h0]
          refine ev_bs ?_
          dsimp only
          rw [l32_4, ni_div (by omega) (by omega) (by omega)]
          obtain ⟨w, hw⟩ : ∃ w, w = (og m (4 * v + p) - 1) / 4 := ⟨_, rfl⟩
          rw [← hw] at c1' c2' c3' c4' c5' ps ⊢
          have hw10 := T.lt c1'
          refine Ev.bind (ih w h2 (by omega) c1' (by omega) c2 cp2) (fun h3 hh => ?_)
          obtain ⟨f3, a1, a2⟩ := hh
          have ab := aw_bd (P := P) (c := c) ok d w hw10
          have cb := bd p (by omega)
          generalize aw m P c d w = a at a1 a2 ab ps
          have nbl : ¬ bl (og m) P hp w v := fun z => by have := z.1; omega
          have b3 : h3 94 v = fr (ak m P c (aw m P c d) v p).1 := by rw [(f3.2 v (fun z => nbl z.2)).1]; exact r3
          have b4 : h3 95 v = nI (ak m P c (aw m P c d) v p).2 := by rw [(f3.2 v (fun z => nbl z.2)).2]; exact r4
          generalize ak m P c (aw m P c d) v p = cur at b3 b4 cb ps r3 r4
          have m1 : h3 69 ((1 : Int32)).toNatClampNeg = nI (m 1) := by rw [f3.1 69 (by omega) (by omega)]; exact c2 1 (by omega)
          have e85 : (85 : Int32) + nI (4 * v + p) = nI (85 + (4 * v + p)) := by rw [l32_85, nI_add]
          have m85 : h3 69 (85 + (4 * v + p)) = nI (m (85 + (4 * v + p))) := by rw [f3.1 69 (by omega) (by omega)]; exact c2 _ (by omega)
          have fr3 : FrA (og m) P hp r v h h3 := ⟨fun q q1 q2 => (f3.1 q q1 q2).trans (f2.1 q q1 q2), fun u hu => by
            have nu : ¬ (Cn (og m) r u ∧ bl (og m) P hp w u) := fun z => hu ⟨z.1, bl_up (r := r) c3' c4' z.2⟩
            exact ⟨(f3.2 u nu).1.trans (f2.2 u hu).1, (f3.2 u nu).2.trans (f2.2 u hu).2⟩⟩
          rw [ni_cl (by omega : w < 2147483648), ni_cl (by omega : v < 2147483648), e85, ni_cl (by omega : 85 + (4 * v + p) < 2147483648)]
          refine Ev.grd (ni_in (by omega) hw10) ?_
          by_cases z0 : a.1 = 0
          · have pe : ak m P c (aw m P c d) v (p + 1) = cur := by rw [ps]; unfold ast; rw [if_pos z0]
            refine Ev.pos (by rw [a1, z0]; rfl) (Ev.some ⟨by omega, nxt, fr3, ?_, ?_⟩)
            · dsimp only; rw [pe]; exact b3
            · dsimp only; rw [pe]; exact b4
          · refine Ev.neg (by simp (disch := omega) only [up_s, up_k, up_j, mm_neg, mm_def, ni_lt, ni_le, ni_eq, ni_mm, mm_ni, ni_lt_mm, ni_le_mm, mm_lt_ni, mm_le_ni, mm_lt_mm, mm_le_mm, ni_cl, ni_in, nI_add, ni_mul, ni_div, ni_rem, ni_rem2, fr_sub, fr_mm, fr_ge0, fr_lt0, fr_inj, l32_0, l32_1, l32_2, l32_3, l32_4, l32_5, l32_6, l32_7, l32_8, l32_9, l32_10, l32_11, l32_12, l32_13, l32_14, l32_15, l32_16, l32_20, l32_24, l32_25, l32_26, l32_31, l32_32, l32_34, l32_35, l32_39, l32_40, l32_44, l32_45, l32_46, l32_47, l32_48, l32_49, l32_57, l32_58, l32_59, l32_63, l32_64, l32_85, l32_90, l32_97, l32_99, l32_100, l32_110, l32_112, l32_122, l32_124, l32_125, l32_255, l32_680, l32_699, l32_700, l32_999, l32_2500, l32_99999, l32_100000, l32_1000000, if_true, if_false, ite_true, ite_false, ce_nm, Option.bind, if_pos, if_neg, a1]; exact z0) (Ev.grd (ni_in (by omega) hw10) (Ev.grd (ni_in (by omega) hw10) ?_))
            -- the tick
            have fin : ∀ (x : Nat) (X : Int32), X = nI x → x = (if a.1 = w + 1 then 0 else m 1) → Ev (if ce_in (nI (85 + (4 * v + p))) 125 = true then if ce_in (nI v) 10 = true then if h3 94 v = (-1 : Int32) then if ce_in (nI w) 10 = true then if ce_in (nI v) 10 = true then ce_nm (hp_up h3 94 v (h3 94 w)) (fun h_165 => if ce_in (nI v) 10 = true then ce_nm (hp_up h_165 95 v ((h3 95 w + X) + h3 69 (85 + (4 * v + p)))) (fun h_173 => some (Sum.inl (nI (4 * v + p) + 1, h_173))) else none) else none else none else if ce_in (nI v) 10 = true then if h3 95 v ≤ ((h3 95 w + X) + h3 69 (85 + (4 * v + p))) then some (Sum.inl (nI (4 * v + p) + 1, h3)) else if ce_in (nI v) 10 = true then if h3 94 v = nI v then some (Sum.inl (nI (4 * v + p) + 1, h3)) else if ce_in (nI w) 10 = true then if ce_in (nI v) 10 = true then ce_nm (hp_up h3 94 v (h3 94 w)) (fun h_165 => if ce_in (nI v) 10 = true then ce_nm (hp_up h_165 95 v ((h3 95 w + X) + h3 69 (85 + (4 * v + p)))) (fun h_173 => some (Sum.inl (nI (4 * v + p) + 1, h_173))) else none) else none else none else none else none else none else none) (fun o => o = (Sum.inl (nI (4 * v + (p + 1)), (if cur.1 = 0 ∨ (a.2 + x + m (85 + (4 * v + p)) < cur.2 ∧ cur.1 ≠ v + 1) then hp_up (hp_up h3 94 v (fr a.1)) 95 v (nI (a.2 + x + m (85 + (4 * v + p)))) else h3)) : (Int32 × Hp) ⊕ Hp)) := by
              intro x X hX hx
              have xb : x ≤ 9 := by
                rw [hx]
                by_cases z : a.1 = w + 1
                · rw [if_pos z]; omega
                · rw [if_neg z]; omega
              have et : (h3 95 w + X) + h3 69 (85 + (4 * v + p)) = nI (a.2 + x + m (85 + (4 * v + p))) := by rw [a2, hX, m85, nI_add, nI_add]
              rw [nxt]
              refine Ev.grd (ni_in (by omega) (by omega)) (Ev.grd (ni_in (by omega) hv10) ?_)
              by_cases y0 : cur.1 = 0
              · refine Ev.pos (by rw [b3, y0]; rfl) (Ev.grd (ni_in (by omega) hw10) (Ev.grd (ni_in (by omega) hv10) (Ev.nm (Ev.grd (ni_in (by omega) hv10) (Ev.nm (Ev.some ?_))))))
                rw [et, a1, if_pos (Or.inl y0)]
              · refine Ev.neg (by simp (disch := omega) only [up_s, up_k, up_j, mm_neg, mm_def, ni_lt, ni_le, ni_eq, ni_mm, mm_ni, ni_lt_mm, ni_le_mm, mm_lt_ni, mm_le_ni, mm_lt_mm, mm_le_mm, ni_cl, ni_in, nI_add, ni_mul, ni_div, ni_rem, ni_rem2, fr_sub, fr_mm, fr_ge0, fr_lt0, fr_inj, l32_0, l32_1, l32_2, l32_3, l32_4, l32_5, l32_6, l32_7, l32_8, l32_9, l32_10, l32_11, l32_12, l32_13, l32_14, l32_15, l32_16, l32_20, l32_24, l32_25, l32_26, l32_31, l32_32, l32_34, l32_35, l32_39, l32_40, l32_44, l32_45, l32_46, l32_47, l32_48, l32_49, l32_57, l32_58, l32_59, l32_63, l32_64, l32_85, l32_90, l32_97, l32_99, l32_100, l32_110, l32_112, l32_122, l32_124, l32_125, l32_255, l32_680, l32_699, l32_700, l32_999, l32_2500, l32_99999, l32_100000, l32_1000000, if_true, if_false, ite_true, ite_false, ce_nm, Option.bind, if_pos, if_neg, b3]; exact y0) (Ev.grd (ni_in (by omega) hv10) ?_)
                by_cases y1 : cur.2 ≤ a.2 + x + m (85 + (4 * v + p))
                · refine Ev.pos (by rw [et, b4, ni_le (by omega) (by omega)]; exact y1) (Ev.some ?_)
                  rw [if_neg (by omega)]
                · refine Ev.neg (by rw [et, b4, ni_le (by omega) (by omega)]; exact y1) (Ev.grd (ni_in (by omega) hv10) ?_)
                  by_cases y2 : cur.1 = v + 1
                  · refine Ev.pos (by rw [b3, y2, fr_s]) (Ev.some ?_)
                    rw [if_neg (by omega)]
                  · refine Ev.neg (by rw [b3, ← fr_s v, fr_inj (by omega) (by omega)]; exact y2) (Ev.grd (ni_in (by omega) hw10) (Ev.grd (ni_in (by omega) hv10) (Ev.nm (Ev.grd (ni_in (by omega) hv10) (Ev.nm (Ev.some ?_))))))
                    rw [et, a1, if_pos (by omega)]
            have done : ∀ x, x = (if a.1 = w + 1 then 0 else m 1) → FrA (og m) P hp r v h (if cur.1 = 0 ∨ (a.2 + x + m (85 + (4 * v + p)) < cur.2 ∧ cur.1 ≠ v + 1) then hp_up (hp_up h3 94 v (fr a.1)) 95 v (nI (a.2 + x + m (85 + (4 * v + p)))) else h3) ∧ (if cur.1 = 0 ∨ (a.2 + x + m (85 + (4 * v + p)) < cur.2 ∧ cur.1 ≠ v + 1) then hp_up (hp_up h3 94 v (fr a.1)) 95 v (nI (a.2 + x + m (85 + (4 * v + p)))) else h3) 94 v = fr (ak m P c (aw m P c d) v (p + 1)).1 ∧ (if cur.1 = 0 ∨ (a.2 + x + m (85 + (4 * v + p)) < cur.2 ∧ cur.1 ≠ v + 1) then hp_up (hp_up h3 94 v (fr a.1)) 95 v (nI (a.2 + x + m (85 + (4 * v + p)))) else h3) 95 v = nI (ak m P c (aw m P c d) v (p + 1)).2 := by
              intro x hx
              have pe : ak m P c (aw m P c d) v (p + 1) = if cur.1 = 0 ∨ (a.2 + x + m (85 + (4 * v + p)) < cur.2 ∧ cur.1 ≠ v + 1) then (a.1, a.2 + x + m (85 + (4 * v + p))) else cur := by
                rw [ps, hx]
                unfold ast
                rw [if_neg z0]
              rw [pe]
              by_cases y : cur.1 = 0 ∨ (a.2 + x + m (85 + (4 * v + p)) < cur.2 ∧ cur.1 ≠ v + 1)
              · rw [if_pos y, if_pos y]
                refine ⟨⟨fun q q1 q2 => ?_, fun u hu => ?_⟩, ?_, ?_⟩
                · rw [up_kk _ _ _ _ _ q2, up_kk _ _ _ _ _ q1]; exact fr3.1 q q1 q2
                · have : u ≠ v := fun z => hu (by rw [z]; exact ⟨hv, bl_self _ _ _ _⟩)
                  rw [up_k _ _ _ _ _ _ (by omega), up_j _ _ _ _ _ this, up_j _ _ _ _ _ this, up_k _ _ _ _ _ _ (by omega)]
                  exact fr3.2 u hu
                · rw [up_k _ _ _ _ _ _ (by omega), up_s]
                · rw [up_s]
              · rw [if_neg y, if_neg y]
                exact ⟨fr3, b3, b4⟩
            by_cases zw : a.1 = w + 1
            · refine Ev.pos (by rw [a1, zw, fr_s]) (Ev.mono (fin 0 0 rfl (by rw [if_pos zw])) (fun o ho => ?_))
              rw [ho]
              exact ⟨by omega, rfl, done 0 (by rw [if_pos zw])⟩
            · refine Ev.neg (by rw [a1, ← fr_s w, fr_inj (by omega) (by omega)]; exact zw) (Ev.mono (fin (m 1) _ m1 (by rw [if_neg zw])) (fun o ho => ?_))
              rw [ho]
              exact ⟨by omega, rfl, done (m 1) (by rw [if_neg zw])⟩
    show Ev (Option.bind (f12_has F (nI c) (nI v) h) _) _
    rw [x_has hc hv10]
    refine ev_bs ?_
    dsimp only
    by_cases z : inS c v = true
    · refine Ev.neg (by rw [if_pos z]; decide) (Ev.grd (ni_in (by omega) hv10) (Ev.nm (Ev.grd (ni_in (by omega) hv10) (Ev.nm ?_))))
      rw [e1, ni_cl (by omega)]
      refine Ev.bind (main _ (fun q q1 q2 => ?_) (fun w hw => ?_) ?_ ?_) (fun h' hh => Ev.some hh)
      · rw [up_kk _ _ _ _ _ q2, up_kk _ _ _ _ _ q1]
      · rw [up_k _ _ _ _ _ _ (by omega), up_j _ _ _ _ _ hw, up_j _ _ _ _ _ hw, up_k _ _ _ _ _ _ (by omega)]
        exact ⟨rfl, rfl⟩
      · rw [up_k _ _ _ _ _ _ (by omega), up_s]
        show nI v = fr (if inS c v = true then v + 1 else 0)
        rw [if_pos z, fr_s]
      · rw [up_s]; rfl
    · refine Ev.pos (by rw [if_neg z]; rfl) (Ev.grd (ni_in (by omega) hv10) (Ev.nm (Ev.grd (ni_in (by omega) hv10) (Ev.nm ?_))))
      rw [e1, ni_cl (by omega)]
      refine Ev.bind (main _ (fun q q1 q2 => ?_) (fun w hw => ?_) ?_ ?_) (fun h' hh => Ev.some hh)
      · rw [up_kk _ _ _ _ _ q2, up_kk _ _ _ _ _ q1]
      · rw [up_k _ _ _ _ _ _ (by omega), up_j _ _ _ _ _ hw, up_j _ _ _ _ _ hw, up_k _ _ _ _ _ _ (by omega)]
        exact ⟨rfl, rfl⟩
      · rw [up_k _ _ _ _ _ _ (by omega), up_s]
        show mm = fr (if inS c v = true then v + 1 else 0)
        rw [if_neg z]
        rfl
      · rw [up_s]; rfl
