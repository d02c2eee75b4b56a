-- asking: the class's hear and ask
theorem ast_in {dl L w v c : Nat} {a cur : Nat × Nat} (ha : a.1 ≠ 0 → inS c (a.1 - 1) = true) (hc : cur.1 ≠ 0 → inS c (cur.1 - 1) = true) : (ast dl L w v a cur).1 ≠ 0 → inS c ((ast dl L w v a cur).1 - 1) = true := by
  unfold ast
  by_cases z : a.1 = 0
  · rw [if_pos z]; exact hc
  · rw [if_neg z]
    by_cases y : cur.1 = 0 ∨ (a.2 + (if a.1 = w + 1 then 0 else dl) + L < cur.2 ∧ cur.1 ≠ v + 1)
    · rw [if_pos y]; exact ha
    · rw [if_neg y]; exact hc
theorem ast_ne {dl L w v : Nat} {a cur : Nat × Nat} (h : a.1 ≠ 0 ∨ cur.1 ≠ 0) : (ast dl L w v a cur).1 ≠ 0 := by
  unfold ast
  by_cases z : a.1 = 0
  · rw [if_pos z]; omega
  · rw [if_neg z]
    by_cases y : cur.1 = 0 ∨ (a.2 + (if a.1 = w + 1 then 0 else dl) + L < cur.2 ∧ cur.1 ≠ v + 1)
    · rw [if_pos y]; exact z
    · rw [if_neg y]; omega
theorem ak_in {m P : Nat → Nat} {c : Nat} {g : Nat → Nat × Nat} (hg : ∀ w, (g w).1 ≠ 0 → inS c ((g w).1 - 1) = true) (v : Nat) : ∀ p, (ak m P c g v p).1 ≠ 0 → inS c ((ak m P c g v p).1 - 1) = true := by
  intro p
  induction p with
  | zero =>
    show (if inS c v = true then v + 1 else 0) ≠ 0 → inS c ((if inS c v = true then v + 1 else 0) - 1) = true
    by_cases z : inS c v = true
    · rw [if_pos z]; exact fun _ => z
    · rw [if_neg z]; exact fun q => absurd rfl q
  | succ p ih =>
    rw [ak_s]
    by_cases z : ch (og m) P (4 * v + p) = true
    · rw [if_pos z]; exact ast_in (hg _) ih
    · rw [if_neg z]; exact ih
theorem aw_in (m P : Nat → Nat) (c : Nat) : ∀ f v, (aw m P c f v).1 ≠ 0 → inS c ((aw m P c f v).1 - 1) = true := by
  intro f
  induction f with
  | zero => intro v h; exact absurd rfl h
  | succ f ih => intro v; rw [aw_s]; exact ak_in ih v 4
theorem ak_self {m P : Nat → Nat} {c : Nat} {g : Nat → Nat × Nat} {v : Nat} (h : inS c v = true) : ∀ p, ak m P c g v p = (v + 1, 0) := by
  intro p
  induction p with
  | zero =>
    show (if inS c v = true then v + 1 else 0, 0) = _
    rw [if_pos h]
  | succ p ih =>
    rw [ak_s, ih]
    by_cases z : ch (og m) P (4 * v + p) = true
    · rw [if_pos z]
      unfold ast
      by_cases y : (g ((og m (4 * v + p) - 1) / 4)).1 = 0
      · rw [if_pos y]
      · rw [if_neg y, if_neg (by dsimp only; omega)]
    · rw [if_neg z]
theorem ak_up {m P : Nat → Nat} {c : Nat} {g : Nat → Nat × Nat} {v p : Nat} (h : (ak m P c g v p).1 ≠ 0) : ∀ q, p ≤ q → (ak m P c g v q).1 ≠ 0 := by
  intro q
  induction q with
  | zero => intro hq; have : p = 0 := by omega
            rw [this] at h; exact h
  | succ q ih =>
    intro hq
    by_cases z : p = q + 1
    · rw [← z]; exact h
    · have I := ih (by omega)
      rw [ak_s]
      by_cases y : ch (og m) P (4 * v + q) = true
      · rw [if_pos y]; exact ast_ne (Or.inr I)
      · rw [if_neg y]; exact I
/-- if one below asks, one is heard -/
theorem aw_ne {m P : Nat → Nat} {r c : Nat} {hp : Nat → Nat} (T : Tr (og m) P r hp) {x : Nat} (hx : Cn (og m) r x) (hS : inS c x = true) : ∀ f v, Cn (og m) r v → 11 ≤ hp v + f → bl (og m) P hp v x → (aw m P c f v).1 ≠ 0 := by
  intro f
  induction f with
  | zero =>
    intro v hv hf
    have := (T.2.2.2.2.2.1 v (T.lt hv) hv).2
    omega
  | succ f ih =>
    intro v hv hf hb
    rw [aw_s]
    by_cases z : x = v
    · rw [z] at hS
      rw [ak_self hS]
      dsimp only
      omega
    · obtain ⟨w, c1, c2, c3, c4, c5⟩ := T.down hv hx hb z
      obtain ⟨e, e1, e2, e3, e4, e5⟩ := T.ce c1 c2
      rw [c3] at e2
      have I := ih w c1 (by omega) c5
      have ee : 4 * v + e % 4 = e := by omega
      refine ak_up (p := e % 4 + 1) ?_ 4 (by omega)
      rw [ak_s, ee, if_pos e3, e4]
      exact ast_ne (Or.inl I)
def A1 (x : Nat × Nat) : Int32 := if x.1 = 0 then nI 1000000 else nI x.2
theorem A1_v (x : Nat × Nat) : A1 x = nI (if x.1 = 0 then 1000000 else x.2) := nI_if
theorem x_hear {m P : Nat → Nat} {k kn r v c d F : Nat} {hp : Nat → Nat} {h : Hp} (hkn : ce_isNet kn) (hk : ce_isEl k) (ok : OkG m) (T : Tr (og m) P r hp) (hr : r < m 2) (cn : CNw h kn m) (cp : ∀ v, v < 10 → h (k + 4) v = fr (P v)) (hc : c < 1024) (hv : Cn (og m) r v) (hd : d ≤ 12) (kids : ∀ w, Cn (og m) r w → w ≠ r → pr (og m) P w = v → h 66 w = fr (aw m P c d w).1 ∧ h 67 w = A1 (aw m P c d w)) (hF : 1000 ≤ F) :
    Ev (f1_hear F kn k (nI v) (nI c) h) (fun h' => (∀ q, q ≠ 66 → q ≠ 67 → h' q = h q) ∧ (∀ w, w ≠ v → h' 66 w = h 66 w ∧ h' 67 w = h 67 w) ∧ h' 66 v = fr (aw m P c (d + 1) v).1 ∧ h' 67 v = A1 (aw m P c (d + 1) v)) := by
  have bk := el_ge hk
  have bn := net_le hkn
  have g := ok.2.2.2.1
  have h2 := ok.2.1
  have po := T.2.1
  have hv2 : v < m 2 := cn_lt ok hv hr
  have hv10 : v < 10 := by omega
  have hP := (ok.2.2.1 v hv2).2
  have bd := fun p hp4 => ak_bd (P := P) (c := c) ok hv10 (aw_bd (P := P) (c := c) ok d) p hp4
  have out : ∀ i, m (5 + v) ≤ i → i < 4 → ch (og m) P (4 * v + i) = false := fun i h1 h3 => by
    cases hc : ch (og m) P (4 * v + i) with
    | false => rfl
    | true =>
      have := (ok.2.2.2.2 (4 * v + i) (by omega) (ch_t.mp hc).1).2.1
      have e1 : (4 * v + i) % 4 = i := by omega
      have e2 : (4 * v + i) / 4 = v := by omega
      rw [e1, e2] at this
      omega
  have aext : ∀ j, m (5 + v) + j ≤ 4 → ak m P c (aw m P c d) v (m (5 + v) + j) = ak m P c (aw m P c d) v (m (5 + v)) := by
    intro j
    induction j with
    | zero => intro _; rfl
    | succ j ih =>
      intro hj
      rw [show m (5 + v) + (j + 1) = (m (5 + v) + j) + 1 from rfl, ak_s, out _ (by omega) (by omega), if_neg (by simp)]
      exact ih (by omega)
  have a4 : aw m P c (d + 1) v = ak m P c (aw m P c d) v (m (5 + v)) := by
    rw [aw_s]
    have := aext (4 - m (5 + v)) (by omega)
    rw [show m (5 + v) + (4 - m (5 + v)) = 4 by omega] at this
    exact this
  have main : ∀ h1 : Hp, (∀ q, q ≠ 66 → q ≠ 67 → h1 q = h q) → (∀ w, w ≠ v → h1 66 w = h 66 w ∧ h1 67 w = h 67 w) → h1 66 v = fr (ak m P c (aw m P c d) v 0).1 → h1 67 v = A1 (ak m P c (aw m P c d) v 0) → Ev (ce_it (fun (st : Int32 × Hp) => f1_hear_b44 F kn k (nI v) st.1 st.2) F ((0 : Int32), h1)) (fun h' => (∀ q, q ≠ 66 → q ≠ 67 → h' q = h q) ∧ (∀ w, w ≠ v → h' 66 w = h 66 w ∧ h' 67 w = h 67 w) ∧ h' 66 v = fr (aw m P c (d + 1) v).1 ∧ h' 67 v = A1 (aw m P c (d + 1) v)) := by
    intro h1 k1 k2 k3 k4
    refine Ev.it (I := fun p s => s.1 = nI p ∧ (∀ q, q ≠ 66 → q ≠ 67 → s.2 q = h q) ∧ (∀ w, w ≠ v → s.2 66 w = h 66 w ∧ s.2 67 w = h 67 w) ∧ s.2 66 v = fr (ak m P c (aw m P c d) v p).1 ∧ s.2 67 v = A1 (ak m P c (aw m P c d) v p)) _ (m (5 + v)) ?_ F 0 _ (by omega) (by omega) ⟨rfl, k1, k2, k3, k4⟩
    rintro p ⟨x, h2'⟩ hp4 hI
    obtain ⟨rfl, f1, f2, r3, r4⟩ : x = nI p ∧ (∀ q, q ≠ 66 → q ≠ 67 → h2' q = h q) ∧ (∀ w, w ≠ v → h2' 66 w = h 66 w ∧ h2' 67 w = h 67 w) ∧ h2' 66 v = fr (ak m P c (aw m P c d) v p).1 ∧ h2' 67 v = A1 (ak m P c (aw m P c d) v p) := hI
    show Ev (f1_hear_b44 F kn k (nI v) (nI p) h2') _
    have cn2 : CNw h2' kn m := ⟨by rw [f1 _ (by omega) (by omega)]; exact cn.1, by rw [f1 _ (by omega) (by omega)]; exact cn.2.1, fun v hv => by rw [f1 _ (by omega) (by omega)]; exact cn.2.2.1 v hv, fun e he => by rw [f1 _ (by omega) (by omega)]; exact cn.2.2.2.1 e he, fun e he h0 => by rw [f1 _ (by omega) (by omega)]; exact cn.2.2.2.2 e he h0⟩
    have cp2 : ∀ v, v < 10 → h2' (k + 4) v = fr (P v) := fun v hv => by rw [f1 _ (by omega) (by omega)]; exact cp v hv
    have n3 := cn2.2.2.1 v hv2
    have nxt : nI p + 1 = nI (p + 1) := nI_1 _
    unfold f1_hear_b44
    refine Ev.grd (ni_in (by omega) hv10) ?_
    rw [ni_cl (by omega)]
    by_cases hin : m (5 + v) ≤ p
    · have : p = m (5 + v) := by omega
      rw [this] at r3 r4
      refine Ev.pos (by rw [n3, ni_le (by omega) (by omega)]; exact hin) (Ev.some ⟨f1, f2, ?_, ?_⟩)
      · rw [a4]; exact r3
      · rw [a4]; exact r4
    · refine Ev.neg (by rw [n3, ni_le (by omega) (by omega)]; exact hin) ?_
      rw [x_endOf]
      refine ev_bs ?_
      dsimp only
      have he : 4 * v + p < 40 := by omega
      have ev : (4 * v + p) / 4 = v := by omega
      rw [x_roleOf ok cn2 po cp2 he]
      refine ev_bs ?_
      dsimp only
      have rl : ro (og m) P (4 * v + p) ≤ 3 := by
        unfold ro
        by_cases a : og m (4 * v + p) = 0
        · rw [if_pos a]; omega
        · rw [if_neg a]
          by_cases b : P ((4 * v + p) / 4) = 4 * v + p + 1
          · rw [if_pos b]; omega
          · rw [if_neg b]
            by_cases c : ch (og m) P (4 * v + p) = true
            · rw [if_pos c]; omega
            · rw [if_neg c]; omega
      have rc := ro_ch T he (by rw [ev]; exact hv)
      have ps := ak_s m P c (aw m P c d) v p
      cases hch : ch (og m) P (4 * v + p) with
      | false =>
        rw [hch] at rc
        rw [hch, if_neg (by simp)] at ps
        refine Ev.neg (by rw [l32_2, ni_eq (by omega) (by omega)]; intro q; exact absurd (rc.mp q) (by simp)) (Ev.some ⟨by omega, nxt, f1, f2, ?_, ?_⟩)
        · dsimp only; rw [ps]; exact r3
        · dsimp only; rw [ps]; exact r4
      | true =>
        rw [hch, if_pos rfl] at ps
        obtain ⟨c1', c2', c3', c4', c5'⟩ := T.chn (e := 4 * v + p) he (by rw [ev]; exact hv) hch
        rw [ev] at c3' c4'
        have h0 := (ch_t.mp hch).1
        have hog := og_le g he
        have l9 := (ok.2.2.2.2 (4 * v + p) he h0).2.2.2.1
        have d9 := ok.1
        have n5 : h2' (kn + 5) (4 * v + p) = nI (og m (4 * v + p) - 1) := by rw [cn2.2.2.2.1 _ he, fr_p (by omega)]
        have n6 : h2' (kn + 6) (4 * v + p) = nI (m (85 + (4 * v + p))) := cn2.2.2.2.2 _ he h0
        obtain ⟨w, hw⟩ : ∃ w, w = (og m (4 * v + p) - 1) / 4 := ⟨_, rfl⟩
        rw [← hw] at c1' c2' c3' c4' c5' ps
        have hw10 := T.lt c1'
        have wv : w ≠ v := fun z => by rw [z] at c4'; omega
        obtain ⟨a1, a2⟩ := kids w c1' c2' c3'
        rw [← (f2 w wv).1] at a1
        rw [← (f2 w wv).2] at a2
        have ab := aw_bd (P := P) (c := c) ok d w hw10
        have ain := aw_in m P c d w
        have cb := bd p (by omega)
        have cin := ak_in (aw_in m P c d) (m := m) (P := P) v p
        have cse : inS c v = true → ak m P c (aw m P c d) v p = (v + 1, 0) := fun q => ak_self q p
        generalize aw m P c d w = a at a1 a2 ab ps ain
        generalize ak m P c (aw m P c d) v p = cur at r3 r4 cb ps cin cse
        have cv0 : cur.1 = v + 1 → cur.2 = 0 := fun q => by
          have := cin (by omega)
          rw [q, show v + 1 - 1 = v from rfl] at this
          rw [cse this]
        refine Ev.pos (by rw [rc.mpr hch]; rfl) ?_
        have hearC : Ev (f1_hearChild F kn (nI v) (nI (4 * v + p)) h2') (fun h' => (∀ q, q ≠ 66 → q ≠ 67 → h' q = h q) ∧ (∀ w, w ≠ v → h' 66 w = h 66 w ∧ h' 67 w = h 67 w) ∧ h' 66 v = fr (ak m P c (aw m P c d) v (p + 1)).1 ∧ h' 67 v = A1 (ak m P c (aw m P c d) v (p + 1))) := by
          unfold f1_hearChild
          refine Ev.grd (ni_in (by omega) he) ?_
          rw [ni_cl (by omega), n5, x_nodeOf _ _ _ (by omega), ← hw]
          refine ev_bs ?_
          dsimp only
          refine Ev.grd (ni_in (by omega) hw10) ?_
          rw [ni_cl (by omega)]
          by_cases z0 : a.1 = 0
          · have pe : ak m P c (aw m P c d) v (p + 1) = cur := by rw [ps]; unfold ast; rw [if_pos z0]
            refine Ev.pos (by rw [a1, z0]; rfl) (Ev.some ⟨f1, f2, ?_, ?_⟩)
            · rw [pe]; exact r3
            · rw [pe]; exact r4
          · refine Ev.neg (by simp (disch := omega) only [up_s, up_k, up_j, mm_neg, mm_def, ni_lt, ni_le, ni_eq, ni_mm, mm_ni, ni_lt_mm, ni_le_mm, mm_lt_ni, mm_le_ni, mm_lt_mm, mm_le_mm, ni_cl, ni_in, nI_add, ni_mul, ni_div, ni_rem, ni_rem2, fr_sub, fr_mm, fr_ge0, fr_lt0, fr_inj, l32_0, l32_1, l32_2, l32_3, l32_4, l32_5, l32_6, l32_7, l32_8, l32_9, l32_10, l32_11, l32_12, l32_13, l32_14, l32_15, l32_16, l32_20, l32_24, l32_25, l32_26, l32_31, l32_32, l32_34, l32_35, l32_39, l32_40, l32_44, l32_45, l32_46, l32_47, l32_48, l32_49, l32_57, l32_58, l32_59, l32_63, l32_64, l32_85, l32_90, l32_97, l32_99, l32_100, l32_110, l32_112, l32_122, l32_124, l32_125, l32_255, l32_680, l32_699, l32_700, l32_999, l32_2500, l32_99999, l32_100000, l32_1000000, if_true, if_false, ite_true, ite_false, ce_nm, Option.bind, if_pos, if_neg, a1]; exact z0) (Ev.grd (ni_in (by omega) hw10) ?_)
            have j43 : ∀ (x : Nat) (X : Int32), X = nI x → x = (if a.1 = w + 1 then 0 else m 1) → Ev (f1_hearChild_j43 F kn (nI v) (nI (4 * v + p)) (nI w) X h2') (fun h' => (∀ q, q ≠ 66 → q ≠ 67 → h' q = h q) ∧ (∀ w, w ≠ v → h' 66 w = h 66 w ∧ h' 67 w = h 67 w) ∧ h' 66 v = fr (ak m P c (aw m P c d) v (p + 1)).1 ∧ h' 67 v = A1 (ak m P c (aw m P c d) v (p + 1))) := by
              intro x X hX hx
              have xb : x ≤ 9 := by
                rw [hx]
                by_cases z : a.1 = w + 1
                · rw [if_pos z]; omega
                · rw [if_neg z]; omega
              have et : (h2' 67 w + X) + h2' (kn + 6) (4 * v + p) = nI (a.2 + x + m (85 + (4 * v + p))) := by
                rw [a2, hX, n6]
                unfold A1
                rw [if_neg z0, nI_add, nI_add]
              have pe : ak m P c (aw m P c d) v (p + 1) = if cur.1 = 0 ∨ (a.2 + x + m (85 + (4 * v + p)) < cur.2 ∧ cur.1 ≠ v + 1) then (a.1, a.2 + x + m (85 + (4 * v + p))) else cur := by
                rw [ps, hx]
                unfold ast
                rw [if_neg z0]
              unfold f1_hearChild_j43
              refine Ev.grd (ni_in (by omega) hw10) (Ev.grd (ni_in (by omega) he) (Ev.grd (ni_in (by omega) hv10) ?_))
              rw [ni_cl (by omega : w < 2147483648), ni_cl (by omega : v < 2147483648), ni_cl (by omega : 4 * v + p < 2147483648)]
              by_cases y : cur.1 = 0 ∨ (a.2 + x + m (85 + (4 * v + p)) < cur.2 ∧ cur.1 ≠ v + 1)
              · rw [if_pos y] at pe
                refine Ev.neg ?_ (Ev.grd (ni_in (by omega) hw10) (Ev.grd (ni_in (by omega) hv10) (Ev.nm (Ev.grd (ni_in (by omega) hv10) (Ev.nm (Ev.some ⟨fun q q1 q2 => ?_, fun u hu => ?_, ?_, ?_⟩))))))
                · rw [et, r4, A1_v, ni_le (by by_cases q : cur.1 = 0 <;> simp only [q, if_true, if_false] <;> omega) (by omega)]
                  by_cases q : cur.1 = 0
                  · rw [if_pos q]; omega
                  · rw [if_neg q]; omega
                · rw [up_kk _ _ _ _ _ q2, up_kk _ _ _ _ _ q1]; exact f1 q q1 q2
                · rw [up_k _ _ _ _ _ _ (by omega), up_j _ _ _ _ _ hu, up_j _ _ _ _ _ hu, up_k _ _ _ _ _ _ (by omega)]
                  exact f2 u hu
                · rw [up_k _ _ _ _ _ _ (by omega), up_s, pe, a1]
                · rw [up_s, pe, et]
                  unfold A1
                  rw [if_neg z0]
              · rw [if_neg y] at pe
                refine Ev.pos ?_ (Ev.some ⟨f1, f2, by rw [pe]; exact r3, by rw [pe]; exact r4⟩)
                rw [et, r4, A1_v, ni_le (by by_cases q : cur.1 = 0 <;> simp only [q, if_true, if_false] <;> omega) (by omega)]
                have q : ¬ cur.1 = 0 := by omega
                rw [if_neg q]
                by_cases qq : cur.1 = v + 1
                · have := cv0 qq; omega
                · omega
            by_cases zw : a.1 = w + 1
            · exact Ev.pos (by rw [a1, zw, fr_s]) (j43 0 0 rfl (by rw [if_pos zw]))
            · exact Ev.neg (by rw [a1, ← fr_s w, fr_inj (by omega) (by omega)]; exact zw) (j43 (m 1) _ cn2.1 (by rw [if_neg zw]))
        exact Ev.bind hearC (fun h3 hh => Ev.some ⟨by omega, nxt, hh.1, hh.2.1, hh.2.2.1, hh.2.2.2⟩)
  unfold f1_hear
  rw [x_holds hc hv10]
  refine ev_bs ?_
  dsimp only
  by_cases z : inS c v = true
  · refine Ev.neg (by rw [if_pos z]; decide) (Ev.grd (ni_in (by omega) hv10) (Ev.nm ?_))
    rw [x_holds hc hv10]
    refine ev_bs ?_
    dsimp only
    refine Ev.neg (by rw [if_pos z]; decide) (Ev.grd (ni_in (by omega) hv10) (Ev.nm ?_))
    rw [ni_cl (by omega)]
    refine Ev.bind (main _ (fun q q1 q2 => ?_) (fun w hw => ?_) ?_ ?_) (fun h' hh => Ev.some hh)
    · rw [up_kk _ _ _ _ _ q2, up_kk _ _ _ _ _ q1]
    · rw [up_k _ _ _ _ _ _ (by omega), up_j _ _ _ _ _ hw, up_j _ _ _ _ _ hw, up_k _ _ _ _ _ _ (by omega)]
      exact ⟨rfl, rfl⟩
    · rw [up_k _ _ _ _ _ _ (by omega), up_s, ak_self z, fr_s]
    · rw [up_s, ak_self z]; rfl
  · have a0 : ak m P c (aw m P c d) v 0 = (0, 0) := by
      show (if inS c v = true then v + 1 else 0, 0) = _
      rw [if_neg z]
    refine Ev.pos (by rw [if_neg z]; rfl) (Ev.grd (ni_in (by omega) hv10) (Ev.nm ?_))
    rw [x_holds hc hv10]
    refine ev_bs ?_
    dsimp only
    refine Ev.pos (by rw [if_neg z]; rfl) (Ev.grd (ni_in (by omega) hv10) (Ev.nm ?_))
    rw [ni_cl (by omega)]
    refine Ev.bind (main _ (fun q q1 q2 => ?_) (fun w hw => ?_) ?_ ?_) (fun h' hh => Ev.some hh)
    · rw [up_kk _ _ _ _ _ q2, up_kk _ _ _ _ _ q1]
    · rw [up_k _ _ _ _ _ _ (by omega), up_j _ _ _ _ _ hw, up_j _ _ _ _ _ hw, up_k _ _ _ _ _ _ (by omega)]
      exact ⟨rfl, rfl⟩
    · rw [up_k _ _ _ _ _ _ (by omega), up_s, a0]; rfl
    · rw [up_s, a0]; rfl
