-- buses: the least node, how many nodes and cables; Buses.mark
def fs (p : Nat → Bool) : Nat → Nat
  | 0 => 0
  | n + 1 => if fs p n < n then fs p n else if p n = true then n else n + 1
theorem fs_spec (p : Nat → Bool) (n : Nat) : fs p n ≤ n ∧ (fs p n < n → p (fs p n) = true) ∧ ∀ i, i < fs p n → p i = false := by
  induction n with
  | zero => exact ⟨Nat.le_refl _, fun h => absurd h (by simp [fs]), fun i hi => absurd hi (by simp [fs])⟩
  | succ n ih =>
    obtain ⟨h1, h2, h3⟩ := ih
    unfold fs
    by_cases c : fs p n < n
    · rw [if_pos c]
      exact ⟨by omega, fun _ => h2 c, h3⟩
    · rw [if_neg c]
      have e : fs p n = n := by omega
      rw [e] at h3
      cases hp : p n with
      | true =>
        rw [if_pos rfl]
        exact ⟨by omega, fun _ => hp, h3⟩
      | false =>
        rw [if_neg (by simp)]
        refine ⟨Nat.le_refl _, fun h => absurd h (by omega), fun i hi => ?_⟩
        by_cases z : i = n
        · rw [z]; exact hp
        · exact h3 i (by omega)
theorem fs_le {p : Nat → Bool} {n i : Nat} (hi : i < n) (hp : p i = true) : fs p n ≤ i := by
  obtain ⟨h1, h2, h3⟩ := fs_spec p n
  apply Classical.byContradiction
  intro z
  have := h3 i (by omega)
  rw [this] at hp
  cases hp
theorem fs_at {p : Nat → Bool} {n i : Nat} (hi : i < n) (hp : p i = true) : p (fs p n) = true ∧ fs p n < n := by
  have h1 := fs_le hi hp
  exact ⟨(fs_spec p n).2.1 (by omega), by omega⟩
theorem fs_eq {p : Nat → Bool} {n i : Nat} (hi : i < n) (hp : p i = true) (h : ∀ j, j < i → p j = false) : fs p n = i := by
  have h1 := fs_le hi hp
  have h2 := (fs_at hi hp).1
  apply Classical.byContradiction
  intro z
  have := h (fs p n) (by omega)
  rw [this] at h2
  cases h2
noncomputable def lst (o : Nat → Nat) (v : Nat) : Nat := fs (nb o v) 10
theorem lst_cn {o : Nat → Nat} {v : Nat} (hv : v < 10) : Cn o v (lst o v) ∧ lst o v < 10 := by
  obtain ⟨h1, h2⟩ := fs_at (p := nb o v) hv (bo_p (Cn.refl o v))
  exact ⟨bo_t.mp h1, h2⟩
theorem lst_le {o : Nat → Nat} {v u : Nat} (hu : u < 10) (h : Cn o v u) : lst o v ≤ u := fs_le hu (bo_p h)
theorem nb_eq {o : Nat → Nat} (g : Gr o) {v w : Nat} (h : Cn o v w) (u : Nat) : nb o v u = nb o w u := by
  unfold nb
  by_cases c : Cn o v u
  · rw [bo_p c, bo_p ((h.symm g).trans c)]
  · rw [bo_f c, bo_f (fun z => c (h.trans z))]
theorem eb_eq {o : Nat → Nat} (g : Gr o) {v w : Nat} (h : Cn o v w) (e : Nat) : eb o v e = eb o w e := by
  unfold eb
  by_cases c : o e ≠ 0 ∧ Cn o v (e / 4)
  · rw [bo_p c, bo_p ⟨c.1, (h.symm g).trans c.2⟩]
  · rw [bo_f c, bo_f (fun z => c ⟨z.1, h.trans z.2⟩)]
theorem fs_congr {p q : Nat → Bool} {n : Nat} (h : ∀ i, i < n → p i = q i) : fs p n = fs q n := by
  induction n with
  | zero => rfl
  | succ n ih =>
    unfold fs
    rw [ih (fun i hi => h i (by omega)), h n (by omega)]
theorem lst_eq {o : Nat → Nat} (g : Gr o) {v w : Nat} (h : Cn o v w) : lst o v = lst o w := fs_congr (fun i _ => nb_eq g h i)
theorem lst_iff {o : Nat → Nat} (g : Gr o) {v w : Nat} (hv : v < 10) (hw : w < 10) : lst o v = lst o w ↔ Cn o v w := by
  constructor
  · intro h
    have h1 := (lst_cn (o := o) hv).1
    have h2 := (lst_cn (o := o) hw).1
    rw [← h] at h2
    exact h1.trans (h2.symm g)
  · exact lst_eq g
theorem lst_lst {o : Nat → Nat} (g : Gr o) {v : Nat} (hv : v < 10) : lst o (lst o v) = lst o v := (lst_eq g (lst_cn hv).1).symm
noncomputable def sz (o : Nat → Nat) (v : Nat) : Nat := ct (nb o v) 10
noncomputable def cb (o : Nat → Nat) (v : Nat) : Nat := ct (eb o v) 40 / 2
theorem sz_eq {o : Nat → Nat} (g : Gr o) {v w : Nat} (h : Cn o v w) : sz o v = sz o w := ct_congr (fun i _ => nb_eq g h i)
theorem cb_eq {o : Nat → Nat} (g : Gr o) {v w : Nat} (h : Cn o v w) : cb o v = cb o w := by
  unfold cb
  rw [ct_congr (fun i _ => eb_eq g h i)]
/-- one more is counted -/
theorem ct_add {p r : Nat → Bool} {n j : Nat} (hj : j < n) (hp : p j = false) (hr : ∀ i, i < n → (r i = true ↔ p i = true ∨ i = j)) : ct r n = ct p n + 1 := by
  have h1 := ct_del (q := r) hj ((hr j hj).mpr (Or.inr rfl))
  have h2 : ct (fun i => r i && !(i == j)) n = ct p n := ct_congr (fun i hi => by
    by_cases z : i = j
    · rw [z, hp]; simp
    · have e : (i == j) = false := by simp [z]
      simp only [e]
      have := hr i hi
      cases hri : r i with
      | true =>
        rcases this.mp hri with y | y
        · rw [y]; rfl
        · exact absurd y z
      | false =>
        cases hpi : p i with
        | false => rfl
        | true => rw [this.mpr (Or.inl hpi)] at hri; cases hri)
  omega
/-- cells lo to hi alone may differ -/
def Fr (lo hi : Nat) (h h' : Hp) : Prop := ∀ c, (c < lo ∨ hi < c) → h' c = h c
theorem Fr.refl (lo hi : Nat) (h : Hp) : Fr lo hi h h := fun _ _ => rfl
theorem Fr.trans {lo hi : Nat} {h1 h2 h3 : Hp} (a : Fr lo hi h1 h2) (b : Fr lo hi h2 h3) : Fr lo hi h1 h3 := fun c hc => (b c hc).trans (a c hc)
theorem Fr.wide {lo hi lo' hi' : Nat} {h h' : Hp} (a : Fr lo hi h h') (h1 : lo' ≤ lo) (h2 : hi ≤ hi') : Fr lo' hi' h h' := fun c hc => a c (by omega)
theorem Fw.fr {h h' : Hp} (a : Fw h h') : Fr 40 43 h h' := fun c hc => a c (by omega) (by omega) (by omega) (by omega)
theorem up_fr (h : Hp) (k j : Nat) (v : Int32) : Fr k k h (hp_up h k j v) := fun c hc => up_kk _ _ _ _ _ (by omega)
theorem CNw.fr {lo hi : Nat} {h h' : Hp} {k : Nat} {m : Nat → Nat} (hk : ce_isNet k) (f : Fr lo hi h h') (hl : 21 ≤ lo) (c : CNw h k m) : CNw h' k m := by
  have e0 : ∀ j, j < 7 → h' (k + j) = h (k + j) := fun j hj => f (k + j) (by rcases hk with rfl | rfl <;> omega)
  obtain ⟨c1, c2, c3, c4, c5⟩ := c
  have e1 := e0 0 (by omega)
  have e2 := e0 1 (by omega)
  have e3 := e0 5 (by omega)
  have e4 := e0 6 (by omega)
  rw [Nat.add_zero] at e1
  exact ⟨by rw [e1]; exact c1, by rw [e1]; exact c2, fun v hv => by rw [e2]; exact c3 v hv, fun e he => by rw [e3]; exact c4 e he, fun e he h0 => by rw [e4]; exact c5 e he h0⟩
theorem cu0 (o : Nat → Nat) : cu o 0 = o := funext (fun e => cu_0 o e)
/-- the ends of the first nodes of a row -/
noncomputable def er (o q : Nat → Nat) (i p : Nat) : Nat → Bool := fun e => bo (o e ≠ 0 ∧ ((∃ j, j < i ∧ q j = e / 4) ∨ (q i = e / 4 ∧ e % 4 < p)))
theorem er_next {o q : Nat → Nat} {i P : Nat} (hP : ∀ e, e < 40 → o e ≠ 0 → q i = e / 4 → e % 4 < P) : ct (er o q i P) 40 = ct (er o q (i + 1) 0) 40 := by
  refine ct_congr (fun e he => ?_)
  unfold er
  by_cases c : o e ≠ 0 ∧ ((∃ j, j < i ∧ q j = e / 4) ∨ (q i = e / 4 ∧ e % 4 < P))
  · rw [bo_p c, bo_p]
    refine ⟨c.1, Or.inl ?_⟩
    rcases c.2 with ⟨j, j1, j2⟩ | ⟨z, -⟩
    · exact ⟨j, by omega, j2⟩
    · exact ⟨i, by omega, z⟩
  · rw [bo_f c, bo_f]
    rintro ⟨z1, z2⟩
    apply c
    refine ⟨z1, ?_⟩
    rcases z2 with ⟨j, j1, j2⟩ | ⟨z, y⟩
    · by_cases ji : j = i
      · subst ji
        exact Or.inr ⟨j2, hP e he z1 j2⟩
      · exact Or.inl ⟨j, by omega, j2⟩
    · omega
theorem er_step0 {o q : Nat → Nat} {i p e0 : Nat} (h1 : e0 / 4 = q i) (h2 : e0 % 4 = p) (c : o e0 = 0) : ct (er o q i (p + 1)) 40 = ct (er o q i p) 40 := by
  refine ct_congr (p := er o q i (p + 1)) (q := er o q i p) (n := 40) (fun e he => ?_)
  unfold er
  by_cases z : e = e0
  · rw [z, bo_f (fun y => y.1 c), bo_f (fun y => y.1 c)]
  · congr 1
    apply propext
    constructor
    · rintro ⟨y1, y2 | ⟨y3, y4⟩⟩
      · exact ⟨y1, Or.inl y2⟩
      · exact ⟨y1, Or.inr ⟨y3, by omega⟩⟩
    · rintro ⟨y1, y2 | ⟨y3, y4⟩⟩
      · exact ⟨y1, Or.inl y2⟩
      · exact ⟨y1, Or.inr ⟨y3, by omega⟩⟩
theorem er_step1 {o q : Nat → Nat} {i p e0 : Nat} (he0 : e0 < 40) (h1 : e0 / 4 = q i) (h2 : e0 % 4 = p) (hinj : ∀ j, j < i → q j ≠ q i) (c : ¬ o e0 = 0) : ct (er o q i (p + 1)) 40 = ct (er o q i p) 40 + 1 := by
  refine ct_add (p := er o q i p) (r := er o q i (p + 1)) (n := 40) he0 (bo_f ?_) (fun e he => ?_)
  · rintro ⟨-, ⟨j, j1, j2⟩ | ⟨-, y⟩⟩
    · exact hinj j j1 (by omega)
    · omega
  · unfold er
    rw [bo_t, bo_t]
    constructor
    · rintro ⟨y1, y2 | ⟨y3, y4⟩⟩
      · exact Or.inl ⟨y1, Or.inl y2⟩
      · by_cases z : e = e0
        · exact Or.inr z
        · exact Or.inl ⟨y1, Or.inr ⟨y3, by omega⟩⟩
    · rintro (⟨y1, y2 | ⟨y3, y4⟩⟩ | z)
      · exact ⟨y1, Or.inl y2⟩
      · exact ⟨y1, Or.inr ⟨y3, by omega⟩⟩
      · rw [z]; exact ⟨c, Or.inr ⟨by omega, by omega⟩⟩
/-- Buses.markOne behind a walk from a -/
theorem x_markOne {m : Nat → Nat} {k a s F T Lp : Nat} {h : Hp} {q hp dy : Nat → Nat} (hk : ce_isNet k) (ok : OkG m) (cn : CNw h k m) (ha : a < m 2) (B : Bs h s q hp dy) (bf : Bf m (og m) a hp dy) (hT : h 44 0 = nI T) (hLp : h 44 1 = nI Lp) (hT2 : T ≤ 10) (hL2 : Lp ≤ 10) (hF : 1000 ≤ F) :
    Ev (f2_markOne F k (nI a) h) (fun h' => Fr 44 47 h h' ∧ (∀ v, v < 10 → h' 45 v = if bo (Cn (og m) a v) = true then nI a else h 45 v) ∧ h' 46 = upd (h 46) a (nI (sz (og m) a)) ∧ h' 47 = upd (h 47) a (nI (cb (og m) a)) ∧ h' 44 0 = nI (T + 1) ∧ h' 44 1 = nI (if sz (og m) a ≤ cb (og m) a then Lp + 1 else Lp)) := by
  obtain ⟨k1, k2, k3, k4, k5⟩ := id ok
  obtain ⟨b1, b2, b3, b4, b5, b6, b7⟩ := id B
  have ha10 : a < 10 := by omega
  have hcn : ∀ v, v < 10 → ((∃ i, i < s ∧ q i = v) ↔ Cn (og m) a v) := fun v hv => (b6 v hv).symm.trans (bf.2.2.1 v hv)
  have hqm : ∀ i, i < s → q i < m 2 := by
    intro i hi
    have h10 := (b3 i hi).2
    by_cases z : q i = a
    · omega
    · obtain ⟨e, e1, e2, e3, -⟩ := bf.2.2.2.2 (q i) h10 ((b6 _ h10).mpr ⟨i, hi, rfl⟩) z
      obtain ⟨g1, g2, g3⟩ := k4 e e1 e2
      have := (k5 (og m e - 1) (by omega) (by omega)).1
      omega
  have hsz : s = sz (og m) a := by
    unfold sz
    apply Nat.le_antisymm
    · have z : ct (fun _ => true) s ≤ ct (nb (og m) a) 10 := ct_inj q (fun i hi _ => ⟨(b3 i hi).2, bo_p ((hcn _ (b3 i hi).2).mp ⟨i, hi, rfl⟩)⟩) (fun i j hi hj _ _ => b5 i j hi hj)
      have y : ∀ n, ct (fun _ => true) n = n := by
        intro n
        induction n with
        | zero => rfl
        | succ n ih => unfold ct; rw [ih]; simp
      rw [y] at z
      exact z
    · have y : ∀ n, ct (fun _ => true) n = n := by
        intro n
        induction n with
        | zero => rfl
        | succ n ih => unfold ct; rw [ih]; simp
      have inv : ∀ v, ∃ i, v < 10 → Cn (og m) a v → i < s ∧ q i = v := by
        intro v
        by_cases c : v < 10 ∧ Cn (og m) a v
        · obtain ⟨i, i1, i2⟩ := (hcn v c.1).mpr c.2
          exact ⟨i, fun _ _ => ⟨i1, i2⟩⟩
        · exact ⟨0, fun z1 z2 => absurd ⟨z1, z2⟩ c⟩
      obtain ⟨f, hf⟩ := Classical.axiomOfChoice inv
      have z : ct (nb (og m) a) 10 ≤ ct (fun _ => true) s := ct_inj f (fun v hv hp => ⟨(hf v hv (bo_t.mp hp)).1, rfl⟩) (fun i j hi hj hp hq hij => by
        rw [← (hf i hi (bo_t.mp hp)).2, ← (hf j hj (bo_t.mp hq)).2, hij])
      rw [y] at z
      exact z
  have hend : ct (er (og m) q s 0) 40 = ct (eb (og m) a) 40 := ct_congr (fun e he => by
    unfold er eb
    congr 1
    apply propext
    constructor
    · rintro ⟨z1, ⟨j, j1, j2⟩ | ⟨-, y⟩⟩
      · exact ⟨z1, (hcn _ (by omega)).mp ⟨j, j1, j2⟩⟩
      · omega
    · rintro ⟨z1, z2⟩
      obtain ⟨j, j1, j2⟩ := (hcn _ (by omega)).mpr z2
      exact ⟨z1, Or.inl ⟨j, j1, j2⟩⟩)
  have hce : ∀ i p, ct (er (og m) q i p) 40 ≤ 40 := fun i p => ct_le _ _
  have hs1 : 0 < s := by
    obtain ⟨i, i1, -⟩ := (hcn a ha10).mpr (Cn.refl _ _)
    omega
  unfold f2_markOne
  refine Ev.bind (P := fun o => o.1 = nI (ct (eb (og m) a) 40) ∧ Fr 45 45 h o.2 ∧ ∀ v, v < 10 → o.2 45 v = if bo (Cn (og m) a v) = true then nI a else h 45 v) ?_ (fun o ho => ?_)
  · refine Ev.it (I := fun i st => i ≤ s ∧ st.1 = nI (ct (er (og m) q i 0) 40) ∧ st.2.1 = nI i ∧ Fr 45 45 h st.2.2 ∧ ∀ v, v < 10 → st.2.2 45 v = if bo (∃ j, j < i ∧ q j = v) = true then nI a else h 45 v) _ 10 ?_ F 0 _ (by omega) (by omega) ⟨by omega, ?_, rfl, Fr.refl _ _ _, fun v hv => ?_⟩
    · rintro i ⟨x4, x5, h1⟩ hi hI
      obtain ⟨i0, rfl, rfl, i3, i4⟩ : i ≤ s ∧ x4 = nI (ct (er (og m) q i 0) 40) ∧ x5 = nI i ∧ Fr 45 45 h h1 ∧ ∀ v, v < 10 → h1 45 v = if bo (∃ j, j < i ∧ q j = v) = true then nI a else h 45 v := hI
      show Ev (f2_markOne_b6 F k (nI a) (nI (ct (er (og m) q i 0) 40)) (nI i) h1) _
      unfold f2_markOne_b6
      have c1 : h1 40 0 = nI s := by rw [i3 40 (by omega)]; exact b1
      by_cases hin : s ≤ i
      · refine Ev.pos (by simp (disch := omega) only [up_s, up_k, up_j, mm_neg, mm_def, ni_lt, ni_le, ni_eq, ni_mm, mm_ni, ni_lt_mm, ni_le_mm, mm_lt_ni, mm_le_ni, mm_lt_mm, mm_le_mm, ni_cl, ni_in, nI_add, ni_mul, ni_div, ni_rem, ni_rem2, fr_sub, fr_mm, fr_ge0, fr_lt0, fr_inj, l32_0, l32_1, l32_2, l32_3, l32_4, l32_5, l32_6, l32_7, l32_8, l32_9, l32_10, l32_11, l32_12, l32_13, l32_14, l32_15, l32_16, l32_20, l32_24, l32_25, l32_26, l32_31, l32_32, l32_34, l32_35, l32_39, l32_40, l32_44, l32_45, l32_46, l32_47, l32_48, l32_49, l32_57, l32_58, l32_59, l32_63, l32_64, l32_85, l32_90, l32_97, l32_99, l32_100, l32_110, l32_112, l32_122, l32_124, l32_125, l32_255, l32_680, l32_699, l32_700, l32_999, l32_2500, l32_99999, l32_100000, l32_1000000, if_true, if_false, ite_true, ite_false, ce_nm, Option.bind, if_pos, if_neg, c1]; exact hin) (Ev.some ⟨?_, i3, fun v hv => ?_⟩)
        · have : i = s := by omega
          rw [this, hend]
        · show h1 45 v = _
          rw [i4 v hv]
          have : i = s := by omega
          rw [this, propext (hcn v hv)]
      · obtain ⟨d1, d2⟩ := b3 i (by omega)
        have d3 : h1 41 i = nI (q i) := by rw [i3 41 (by omega)]; exact d1
        refine Ev.neg (by simp (disch := omega) only [up_s, up_k, up_j, mm_neg, mm_def, ni_lt, ni_le, ni_eq, ni_mm, mm_ni, ni_lt_mm, ni_le_mm, mm_lt_ni, mm_le_ni, mm_lt_mm, mm_le_mm, ni_cl, ni_in, nI_add, ni_mul, ni_div, ni_rem, ni_rem2, fr_sub, fr_mm, fr_ge0, fr_lt0, fr_inj, l32_0, l32_1, l32_2, l32_3, l32_4, l32_5, l32_6, l32_7, l32_8, l32_9, l32_10, l32_11, l32_12, l32_13, l32_14, l32_15, l32_16, l32_20, l32_24, l32_25, l32_26, l32_31, l32_32, l32_34, l32_35, l32_39, l32_40, l32_44, l32_45, l32_46, l32_47, l32_48, l32_49, l32_57, l32_58, l32_59, l32_63, l32_64, l32_85, l32_90, l32_97, l32_99, l32_100, l32_110, l32_112, l32_122, l32_124, l32_125, l32_255, l32_680, l32_699, l32_700, l32_999, l32_2500, l32_99999, l32_100000, l32_1000000, if_true, if_false, ite_true, ite_false, ce_nm, Option.bind, if_pos, if_neg, c1]; exact hin) (Ev.neg (by simp (disch := omega) only [up_s, up_k, up_j, mm_neg, mm_def, ni_lt, ni_le, ni_eq, ni_mm, mm_ni, ni_lt_mm, ni_le_mm, mm_lt_ni, mm_le_ni, mm_lt_mm, mm_le_mm, ni_cl, ni_in, nI_add, ni_mul, ni_div, ni_rem, ni_rem2, fr_sub, fr_mm, fr_ge0, fr_lt0, fr_inj, l32_0, l32_1, l32_2, l32_3, l32_4, l32_5, l32_6, l32_7, l32_8, l32_9, l32_10, l32_11, l32_12, l32_13, l32_14, l32_15, l32_16, l32_20, l32_24, l32_25, l32_26, l32_31, l32_32, l32_34, l32_35, l32_39, l32_40, l32_44, l32_45, l32_46, l32_47, l32_48, l32_49, l32_57, l32_58, l32_59, l32_63, l32_64, l32_85, l32_90, l32_97, l32_99, l32_100, l32_110, l32_112, l32_122, l32_124, l32_125, l32_255, l32_680, l32_699, l32_700, l32_999, l32_2500, l32_99999, l32_100000, l32_1000000, if_true, if_false, ite_true, ite_false, ce_nm, Option.bind, if_pos, if_neg]; omega) (Ev.grd (by simp (disch := omega) only [up_s, up_k, up_j, mm_neg, mm_def, ni_lt, ni_le, ni_eq, ni_mm, mm_ni, ni_lt_mm, ni_le_mm, mm_lt_ni, mm_le_ni, mm_lt_mm, mm_le_mm, ni_cl, ni_in, nI_add, ni_mul, ni_div, ni_rem, ni_rem2, fr_sub, fr_mm, fr_ge0, fr_lt0, fr_inj, l32_0, l32_1, l32_2, l32_3, l32_4, l32_5, l32_6, l32_7, l32_8, l32_9, l32_10, l32_11, l32_12, l32_13, l32_14, l32_15, l32_16, l32_20, l32_24, l32_25, l32_26, l32_31, l32_32, l32_34, l32_35, l32_39, l32_40, l32_44, l32_45, l32_46, l32_47, l32_48, l32_49, l32_57, l32_58, l32_59, l32_63, l32_64, l32_85, l32_90, l32_97, l32_99, l32_100, l32_110, l32_112, l32_122, l32_124, l32_125, l32_255, l32_680, l32_699, l32_700, l32_999, l32_2500, l32_99999, l32_100000, l32_1000000, if_true, if_false, ite_true, ite_false, ce_nm, Option.bind, if_pos, if_neg]) ?_))
        rw [ni_cl (by omega), d3]
        refine Ev.grd (by simp (disch := omega) only [up_s, up_k, up_j, mm_neg, mm_def, ni_lt, ni_le, ni_eq, ni_mm, mm_ni, ni_lt_mm, ni_le_mm, mm_lt_ni, mm_le_ni, mm_lt_mm, mm_le_mm, ni_cl, ni_in, nI_add, ni_mul, ni_div, ni_rem, ni_rem2, fr_sub, fr_mm, fr_ge0, fr_lt0, fr_inj, l32_0, l32_1, l32_2, l32_3, l32_4, l32_5, l32_6, l32_7, l32_8, l32_9, l32_10, l32_11, l32_12, l32_13, l32_14, l32_15, l32_16, l32_20, l32_24, l32_25, l32_26, l32_31, l32_32, l32_34, l32_35, l32_39, l32_40, l32_44, l32_45, l32_46, l32_47, l32_48, l32_49, l32_57, l32_58, l32_59, l32_63, l32_64, l32_85, l32_90, l32_97, l32_99, l32_100, l32_110, l32_112, l32_122, l32_124, l32_125, l32_255, l32_680, l32_699, l32_700, l32_999, l32_2500, l32_99999, l32_100000, l32_1000000, if_true, if_false, ite_true, ite_false, ce_nm, Option.bind, if_pos, if_neg]) (Ev.nm ?_)
        rw [ni_cl (by omega)]
        obtain ⟨h2, eh2⟩ : ∃ z, z = hp_up h1 45 (q i) (nI a) := ⟨_, rfl⟩
        rw [← eh2]
        have cn2 : CNw h2 k m := by rw [eh2]; exact (cn.fr hk i3 (by omega)).fr hk (up_fr _ _ _ _) (by omega)
        refine Ev.bind (P := fun o => o.1 = nI (ct (er (og m) q (i + 1) 0) 40) ∧ o.2 = h2) ?_ (fun o ho => Ev.some ?_)
        · have hP4 := (k3 (q i) (hqm i (by omega))).2
          have hu := hqm i (by omega)
          refine Ev.it (I := fun p st => st.1 = nI (ct (er (og m) q i p) 40) ∧ st.2.1 = nI p ∧ st.2.2 = h2) _ (m (5 + q i)) ?_ F 0 _ (by omega) (by omega) ⟨rfl, rfl, rfl⟩
          rintro p ⟨y4, y7, h3⟩ hp' hJ
          obtain ⟨rfl, rfl, j3⟩ : y4 = nI (ct (er (og m) q i p) 40) ∧ y7 = nI p ∧ h3 = h2 := hJ
          subst j3
          show Ev (f2_markOne_b42 F k (nI a) (nI i) (nI (q i)) (nI (ct (er (og m) q i p) 40)) (nI p) h3) _
          unfold f2_markOne_b42
          obtain ⟨n1, n2, n3, n4, n5⟩ := id cn2
          have n3u := n3 (q i) hu
          refine Ev.grd (by simp (disch := omega) only [up_s, up_k, up_j, mm_neg, mm_def, ni_lt, ni_le, ni_eq, ni_mm, mm_ni, ni_lt_mm, ni_le_mm, mm_lt_ni, mm_le_ni, mm_lt_mm, mm_le_mm, ni_cl, ni_in, nI_add, ni_mul, ni_div, ni_rem, ni_rem2, fr_sub, fr_mm, fr_ge0, fr_lt0, fr_inj, l32_0, l32_1, l32_2, l32_3, l32_4, l32_5, l32_6, l32_7, l32_8, l32_9, l32_10, l32_11, l32_12, l32_13, l32_14, l32_15, l32_16, l32_20, l32_24, l32_25, l32_26, l32_31, l32_32, l32_34, l32_35, l32_39, l32_40, l32_44, l32_45, l32_46, l32_47, l32_48, l32_49, l32_57, l32_58, l32_59, l32_63, l32_64, l32_85, l32_90, l32_97, l32_99, l32_100, l32_110, l32_112, l32_122, l32_124, l32_125, l32_255, l32_680, l32_699, l32_700, l32_999, l32_2500, l32_99999, l32_100000, l32_1000000, if_true, if_false, ite_true, ite_false, ce_nm, Option.bind, if_pos, if_neg]) ?_
          by_cases hpn : m (5 + q i) ≤ p
          · refine Ev.pos (by simp (disch := omega) only [up_s, up_k, up_j, mm_neg, mm_def, ni_lt, ni_le, ni_eq, ni_mm, mm_ni, ni_lt_mm, ni_le_mm, mm_lt_ni, mm_le_ni, mm_lt_mm, mm_le_mm, ni_cl, ni_in, nI_add, ni_mul, ni_div, ni_rem, ni_rem2, fr_sub, fr_mm, fr_ge0, fr_lt0, fr_inj, l32_0, l32_1, l32_2, l32_3, l32_4, l32_5, l32_6, l32_7, l32_8, l32_9, l32_10, l32_11, l32_12, l32_13, l32_14, l32_15, l32_16, l32_20, l32_24, l32_25, l32_26, l32_31, l32_32, l32_34, l32_35, l32_39, l32_40, l32_44, l32_45, l32_46, l32_47, l32_48, l32_49, l32_57, l32_58, l32_59, l32_63, l32_64, l32_85, l32_90, l32_97, l32_99, l32_100, l32_110, l32_112, l32_122, l32_124, l32_125, l32_255, l32_680, l32_699, l32_700, l32_999, l32_2500, l32_99999, l32_100000, l32_1000000, if_true, if_false, ite_true, ite_false, ce_nm, Option.bind, if_pos, if_neg, n3u]; exact hpn) (Ev.some ⟨?_, rfl⟩)
            have : p = m (5 + q i) := by omega
            rw [this, er_next (fun e he h0 hq => by have := (k5 e he h0).2.1; rw [← hq] at this; exact this)]
          · refine Ev.neg (by simp (disch := omega) only [up_s, up_k, up_j, mm_neg, mm_def, ni_lt, ni_le, ni_eq, ni_mm, mm_ni, ni_lt_mm, ni_le_mm, mm_lt_ni, mm_le_ni, mm_lt_mm, mm_le_mm, ni_cl, ni_in, nI_add, ni_mul, ni_div, ni_rem, ni_rem2, fr_sub, fr_mm, fr_ge0, fr_lt0, fr_inj, l32_0, l32_1, l32_2, l32_3, l32_4, l32_5, l32_6, l32_7, l32_8, l32_9, l32_10, l32_11, l32_12, l32_13, l32_14, l32_15, l32_16, l32_20, l32_24, l32_25, l32_26, l32_31, l32_32, l32_34, l32_35, l32_39, l32_40, l32_44, l32_45, l32_46, l32_47, l32_48, l32_49, l32_57, l32_58, l32_59, l32_63, l32_64, l32_85, l32_90, l32_97, l32_99, l32_100, l32_110, l32_112, l32_122, l32_124, l32_125, l32_255, l32_680, l32_699, l32_700, l32_999, l32_2500, l32_99999, l32_100000, l32_1000000, if_true, if_false, ite_true, ite_false, ce_nm, Option.bind, if_pos, if_neg, n3u]; exact hpn) ?_
            have he0 : 4 * q i + p < 40 := by omega
            rw [x_endOf]
            show Ev (Option.bind (f5_isCabled F k (nI (4 * q i + p)) h3) _) _
            have hx41 : og m (4 * q i + p) < 41 := by
              by_cases z : og m (4 * q i + p) = 0
              · omega
              · have := (k4 _ he0 z).1; omega
            rw [x_isCabled F k _ _ h3 he0 hx41 (n4 _ he0)]
            have := hce i p
            by_cases z : og m (4 * q i + p) = 0
            · have st := er_step0 (o := og m) (q := q) (i := i) (p := p) (e0 := 4 * q i + p) (by omega) (by omega) z
              rw [if_pos z]
              simp (disch := omega) only [up_s, up_k, up_j, mm_neg, mm_def, ni_lt, ni_le, ni_eq, ni_mm, mm_ni, ni_lt_mm, ni_le_mm, mm_lt_ni, mm_le_ni, mm_lt_mm, mm_le_mm, ni_cl, ni_in, nI_add, ni_mul, ni_div, ni_rem, ni_rem2, fr_sub, fr_mm, fr_ge0, fr_lt0, fr_inj, l32_0, l32_1, l32_2, l32_3, l32_4, l32_5, l32_6, l32_7, l32_8, l32_9, l32_10, l32_11, l32_12, l32_13, l32_14, l32_15, l32_16, l32_20, l32_24, l32_25, l32_26, l32_31, l32_32, l32_34, l32_35, l32_39, l32_40, l32_44, l32_45, l32_46, l32_47, l32_48, l32_49, l32_57, l32_58, l32_59, l32_63, l32_64, l32_85, l32_90, l32_97, l32_99, l32_100, l32_110, l32_112, l32_122, l32_124, l32_125, l32_255, l32_680, l32_699, l32_700, l32_999, l32_2500, l32_99999, l32_100000, l32_1000000, if_true, if_false, ite_true, ite_false, ce_nm, Option.bind, if_pos, if_neg]
              exact Ev.some ⟨by omega, by rw [st], rfl, rfl⟩
            · have st := er_step1 (o := og m) (q := q) (i := i) (p := p) he0 (by omega) (by omega) (fun j hj z => by have := b5 j i (by omega) (by omega) z; omega) z
              rw [if_neg z]
              simp (disch := omega) only [up_s, up_k, up_j, mm_neg, mm_def, ni_lt, ni_le, ni_eq, ni_mm, mm_ni, ni_lt_mm, ni_le_mm, mm_lt_ni, mm_le_ni, mm_lt_mm, mm_le_mm, ni_cl, ni_in, nI_add, ni_mul, ni_div, ni_rem, ni_rem2, fr_sub, fr_mm, fr_ge0, fr_lt0, fr_inj, l32_0, l32_1, l32_2, l32_3, l32_4, l32_5, l32_6, l32_7, l32_8, l32_9, l32_10, l32_11, l32_12, l32_13, l32_14, l32_15, l32_16, l32_20, l32_24, l32_25, l32_26, l32_31, l32_32, l32_34, l32_35, l32_39, l32_40, l32_44, l32_45, l32_46, l32_47, l32_48, l32_49, l32_57, l32_58, l32_59, l32_63, l32_64, l32_85, l32_90, l32_97, l32_99, l32_100, l32_110, l32_112, l32_122, l32_124, l32_125, l32_255, l32_680, l32_699, l32_700, l32_999, l32_2500, l32_99999, l32_100000, l32_1000000, if_true, if_false, ite_true, ite_false, ce_nm, Option.bind, if_pos, if_neg]
              exact Ev.some ⟨by omega, by rw [st], rfl, rfl⟩
        · obtain ⟨o1, o2⟩ := ho
          refine ⟨by omega, by omega, o1, nI_1 i, ?_, fun v hv => ?_⟩
          · show Fr 45 45 h o.2
            rw [o2, eh2]
            exact i3.trans (up_fr _ _ _ _)
          · show o.2 45 v = _
            rw [o2, eh2]
            by_cases z : v = q i
            · rw [z, up_s, if_pos (bo_p ⟨i, by omega, rfl⟩)]
            · rw [up_j _ _ _ _ _ z, i4 v hv]
              have e9 : (∃ j, j < i ∧ q j = v) = (∃ j, j < i + 1 ∧ q j = v) := by
                apply propext
                constructor
                · rintro ⟨j, j1, j2⟩; exact ⟨j, by omega, j2⟩
                · rintro ⟨j, j1, j2⟩
                  by_cases y : j = i
                  · rw [y] at j2; exact absurd j2.symm z
                  · exact ⟨j, by omega, j2⟩
              rw [e9]
    · show nI 0 = _
      have : ct (er (og m) q 0 0) 40 = 0 := by
        have : ∀ n, ct (er (og m) q 0 0) n = 0 := by
          intro n
          induction n with
          | zero => rfl
          | succ n ih =>
            unfold ct
            rw [ih]
            have : er (og m) q 0 0 n = false := bo_f (by
              rintro ⟨-, ⟨j, j1, -⟩ | ⟨-, y⟩⟩ <;> omega)
            rw [this]
            rfl
        exact this 40
      rw [this]
    · rw [if_neg]
      rw [bo_t]
      rintro ⟨j, j1, -⟩
      omega
  · obtain ⟨o1, o2, o3⟩ := ho
    have hc := hce s 0
    rw [hend] at hc
    have c40 : o.2 40 0 = nI (sz (og m) a) := by rw [o2 40 (by omega), b1, hsz]
    have c44 : o.2 44 0 = nI T := by rw [o2 44 (by omega)]; exact hT
    have c441 : o.2 44 1 = nI Lp := by rw [o2 44 (by omega)]; exact hLp
    have hsz10 : sz (og m) a ≤ 10 := ct_le _ _
    have hcb : ct (eb (og m) a) 40 / 2 = cb (og m) a := rfl
    refine Ev.grd (by simp (disch := omega) only [up_s, up_k, up_j, mm_neg, mm_def, ni_lt, ni_le, ni_eq, ni_mm, mm_ni, ni_lt_mm, ni_le_mm, mm_lt_ni, mm_le_ni, mm_lt_mm, mm_le_mm, ni_cl, ni_in, nI_add, ni_mul, ni_div, ni_rem, ni_rem2, fr_sub, fr_mm, fr_ge0, fr_lt0, fr_inj, l32_0, l32_1, l32_2, l32_3, l32_4, l32_5, l32_6, l32_7, l32_8, l32_9, l32_10, l32_11, l32_12, l32_13, l32_14, l32_15, l32_16, l32_20, l32_24, l32_25, l32_26, l32_31, l32_32, l32_34, l32_35, l32_39, l32_40, l32_44, l32_45, l32_46, l32_47, l32_48, l32_49, l32_57, l32_58, l32_59, l32_63, l32_64, l32_85, l32_90, l32_97, l32_99, l32_100, l32_110, l32_112, l32_122, l32_124, l32_125, l32_255, l32_680, l32_699, l32_700, l32_999, l32_2500, l32_99999, l32_100000, l32_1000000, if_true, if_false, ite_true, ite_false, ce_nm, Option.bind, if_pos, if_neg]) (Ev.nm (Ev.grd (by simp (disch := omega) only [up_s, up_k, up_j, mm_neg, mm_def, ni_lt, ni_le, ni_eq, ni_mm, mm_ni, ni_lt_mm, ni_le_mm, mm_lt_ni, mm_le_ni, mm_lt_mm, mm_le_mm, ni_cl, ni_in, nI_add, ni_mul, ni_div, ni_rem, ni_rem2, fr_sub, fr_mm, fr_ge0, fr_lt0, fr_inj, l32_0, l32_1, l32_2, l32_3, l32_4, l32_5, l32_6, l32_7, l32_8, l32_9, l32_10, l32_11, l32_12, l32_13, l32_14, l32_15, l32_16, l32_20, l32_24, l32_25, l32_26, l32_31, l32_32, l32_34, l32_35, l32_39, l32_40, l32_44, l32_45, l32_46, l32_47, l32_48, l32_49, l32_57, l32_58, l32_59, l32_63, l32_64, l32_85, l32_90, l32_97, l32_99, l32_100, l32_110, l32_112, l32_122, l32_124, l32_125, l32_255, l32_680, l32_699, l32_700, l32_999, l32_2500, l32_99999, l32_100000, l32_1000000, if_true, if_false, ite_true, ite_false, ce_nm, Option.bind, if_pos, if_neg]) (Ev.nm (Ev.nm ?_))))
    simp (disch := omega) only [up_s, up_k, up_j, mm_neg, mm_def, ni_lt, ni_le, ni_eq, ni_mm, mm_ni, ni_lt_mm, ni_le_mm, mm_lt_ni, mm_le_ni, mm_lt_mm, mm_le_mm, ni_cl, ni_in, nI_add, ni_mul, ni_div, ni_rem, ni_rem2, fr_sub, fr_mm, fr_ge0, fr_lt0, fr_inj, l32_0, l32_1, l32_2, l32_3, l32_4, l32_5, l32_6, l32_7, l32_8, l32_9, l32_10, l32_11, l32_12, l32_13, l32_14, l32_15, l32_16, l32_20, l32_24, l32_25, l32_26, l32_31, l32_32, l32_34, l32_35, l32_39, l32_40, l32_44, l32_45, l32_46, l32_47, l32_48, l32_49, l32_57, l32_58, l32_59, l32_63, l32_64, l32_85, l32_90, l32_97, l32_99, l32_100, l32_110, l32_112, l32_122, l32_124, l32_125, l32_255, l32_680, l32_699, l32_700, l32_999, l32_2500, l32_99999, l32_100000, l32_1000000, if_true, if_false, ite_true, ite_false, ce_nm, Option.bind, if_pos, if_neg, o1, c40, c44, hcb]
    by_cases hlp : cb (og m) a < sz (og m) a
    · refine Ev.pos hlp (Ev.some ⟨?_, fun v hv => ?_, ?_, ?_, ?_, ?_⟩)
      · exact ((((o2.wide (by omega) (by omega)).trans ((up_fr _ 46 _ _).wide (by omega) (by omega))).trans ((up_fr _ 47 _ _).wide (by omega) (by omega))).trans ((up_fr _ 44 _ _).wide (by omega) (by omega)))
      · simp (disch := omega) only [up_s, up_k, up_j, mm_neg, mm_def, ni_lt, ni_le, ni_eq, ni_mm, mm_ni, ni_lt_mm, ni_le_mm, mm_lt_ni, mm_le_ni, mm_lt_mm, mm_le_mm, ni_cl, ni_in, nI_add, ni_mul, ni_div, ni_rem, ni_rem2, fr_sub, fr_mm, fr_ge0, fr_lt0, fr_inj, l32_0, l32_1, l32_2, l32_3, l32_4, l32_5, l32_6, l32_7, l32_8, l32_9, l32_10, l32_11, l32_12, l32_13, l32_14, l32_15, l32_16, l32_20, l32_24, l32_25, l32_26, l32_31, l32_32, l32_34, l32_35, l32_39, l32_40, l32_44, l32_45, l32_46, l32_47, l32_48, l32_49, l32_57, l32_58, l32_59, l32_63, l32_64, l32_85, l32_90, l32_97, l32_99, l32_100, l32_110, l32_112, l32_122, l32_124, l32_125, l32_255, l32_680, l32_699, l32_700, l32_999, l32_2500, l32_99999, l32_100000, l32_1000000, if_true, if_false, ite_true, ite_false, ce_nm, Option.bind, if_pos, if_neg]; exact o3 v hv
      · rw [up_kk _ _ _ _ _ (by omega), up_kk _ _ _ _ _ (by omega)]
        simp only [hp_up, if_true]
        rw [o2 46 (by omega)]
      · rw [up_kk _ _ _ _ _ (by omega)]
        simp only [hp_up, if_true]
        rw [if_neg (by omega), o2 47 (by omega)]
      · simp (disch := omega) only [up_s, up_k, up_j, mm_neg, mm_def, ni_lt, ni_le, ni_eq, ni_mm, mm_ni, ni_lt_mm, ni_le_mm, mm_lt_ni, mm_le_ni, mm_lt_mm, mm_le_mm, ni_cl, ni_in, nI_add, ni_mul, ni_div, ni_rem, ni_rem2, fr_sub, fr_mm, fr_ge0, fr_lt0, fr_inj, l32_0, l32_1, l32_2, l32_3, l32_4, l32_5, l32_6, l32_7, l32_8, l32_9, l32_10, l32_11, l32_12, l32_13, l32_14, l32_15, l32_16, l32_20, l32_24, l32_25, l32_26, l32_31, l32_32, l32_34, l32_35, l32_39, l32_40, l32_44, l32_45, l32_46, l32_47, l32_48, l32_49, l32_57, l32_58, l32_59, l32_63, l32_64, l32_85, l32_90, l32_97, l32_99, l32_100, l32_110, l32_112, l32_122, l32_124, l32_125, l32_255, l32_680, l32_699, l32_700, l32_999, l32_2500, l32_99999, l32_100000, l32_1000000, if_true, if_false, ite_true, ite_false, ce_nm, Option.bind, if_pos, if_neg]
      · simp (disch := omega) only [up_s, up_k, up_j, mm_neg, mm_def, ni_lt, ni_le, ni_eq, ni_mm, mm_ni, ni_lt_mm, ni_le_mm, mm_lt_ni, mm_le_ni, mm_lt_mm, mm_le_mm, ni_cl, ni_in, nI_add, ni_mul, ni_div, ni_rem, ni_rem2, fr_sub, fr_mm, fr_ge0, fr_lt0, fr_inj, l32_0, l32_1, l32_2, l32_3, l32_4, l32_5, l32_6, l32_7, l32_8, l32_9, l32_10, l32_11, l32_12, l32_13, l32_14, l32_15, l32_16, l32_20, l32_24, l32_25, l32_26, l32_31, l32_32, l32_34, l32_35, l32_39, l32_40, l32_44, l32_45, l32_46, l32_47, l32_48, l32_49, l32_57, l32_58, l32_59, l32_63, l32_64, l32_85, l32_90, l32_97, l32_99, l32_100, l32_110, l32_112, l32_122, l32_124, l32_125, l32_255, l32_680, l32_699, l32_700, l32_999, l32_2500, l32_99999, l32_100000, l32_1000000, if_true, if_false, ite_true, ite_false, ce_nm, Option.bind, if_pos, if_neg, c441]
    · refine Ev.neg hlp (Ev.nm (Ev.some ⟨?_, fun v hv => ?_, ?_, ?_, ?_, ?_⟩))
      · exact (((((o2.wide (by omega) (by omega)).trans ((up_fr _ 46 _ _).wide (by omega) (by omega))).trans ((up_fr _ 47 _ _).wide (by omega) (by omega))).trans ((up_fr _ 44 _ _).wide (by omega) (by omega))).trans ((up_fr _ 44 _ _).wide (by omega) (by omega)))
      · simp (disch := omega) only [up_s, up_k, up_j, mm_neg, mm_def, ni_lt, ni_le, ni_eq, ni_mm, mm_ni, ni_lt_mm, ni_le_mm, mm_lt_ni, mm_le_ni, mm_lt_mm, mm_le_mm, ni_cl, ni_in, nI_add, ni_mul, ni_div, ni_rem, ni_rem2, fr_sub, fr_mm, fr_ge0, fr_lt0, fr_inj, l32_0, l32_1, l32_2, l32_3, l32_4, l32_5, l32_6, l32_7, l32_8, l32_9, l32_10, l32_11, l32_12, l32_13, l32_14, l32_15, l32_16, l32_20, l32_24, l32_25, l32_26, l32_31, l32_32, l32_34, l32_35, l32_39, l32_40, l32_44, l32_45, l32_46, l32_47, l32_48, l32_49, l32_57, l32_58, l32_59, l32_63, l32_64, l32_85, l32_90, l32_97, l32_99, l32_100, l32_110, l32_112, l32_122, l32_124, l32_125, l32_255, l32_680, l32_699, l32_700, l32_999, l32_2500, l32_99999, l32_100000, l32_1000000, if_true, if_false, ite_true, ite_false, ce_nm, Option.bind, if_pos, if_neg]; exact o3 v hv
      · rw [up_kk _ _ _ _ _ (by omega), up_kk _ _ _ _ _ (by omega), up_kk _ _ _ _ _ (by omega)]
        simp only [hp_up, if_true]
        rw [o2 46 (by omega)]
      · rw [up_kk _ _ _ _ _ (by omega), up_kk _ _ _ _ _ (by omega)]
        simp only [hp_up, if_true]
        rw [if_neg (by omega), o2 47 (by omega)]
      · simp (disch := omega) only [up_s, up_k, up_j, mm_neg, mm_def, ni_lt, ni_le, ni_eq, ni_mm, mm_ni, ni_lt_mm, ni_le_mm, mm_lt_ni, mm_le_ni, mm_lt_mm, mm_le_mm, ni_cl, ni_in, nI_add, ni_mul, ni_div, ni_rem, ni_rem2, fr_sub, fr_mm, fr_ge0, fr_lt0, fr_inj, l32_0, l32_1, l32_2, l32_3, l32_4, l32_5, l32_6, l32_7, l32_8, l32_9, l32_10, l32_11, l32_12, l32_13, l32_14, l32_15, l32_16, l32_20, l32_24, l32_25, l32_26, l32_31, l32_32, l32_34, l32_35, l32_39, l32_40, l32_44, l32_45, l32_46, l32_47, l32_48, l32_49, l32_57, l32_58, l32_59, l32_63, l32_64, l32_85, l32_90, l32_97, l32_99, l32_100, l32_110, l32_112, l32_122, l32_124, l32_125, l32_255, l32_680, l32_699, l32_700, l32_999, l32_2500, l32_99999, l32_100000, l32_1000000, if_true, if_false, ite_true, ite_false, ce_nm, Option.bind, if_pos, if_neg]
      · simp (disch := omega) only [up_s, up_k, up_j, mm_neg, mm_def, ni_lt, ni_le, ni_eq, ni_mm, mm_ni, ni_lt_mm, ni_le_mm, mm_lt_ni, mm_le_ni, mm_lt_mm, mm_le_mm, ni_cl, ni_in, nI_add, ni_mul, ni_div, ni_rem, ni_rem2, fr_sub, fr_mm, fr_ge0, fr_lt0, fr_inj, l32_0, l32_1, l32_2, l32_3, l32_4, l32_5, l32_6, l32_7, l32_8, l32_9, l32_10, l32_11, l32_12, l32_13, l32_14, l32_15, l32_16, l32_20, l32_24, l32_25, l32_26, l32_31, l32_32, l32_34, l32_35, l32_39, l32_40, l32_44, l32_45, l32_46, l32_47, l32_48, l32_49, l32_57, l32_58, l32_59, l32_63, l32_64, l32_85, l32_90, l32_97, l32_99, l32_100, l32_110, l32_112, l32_122, l32_124, l32_125, l32_255, l32_680, l32_699, l32_700, l32_999, l32_2500, l32_99999, l32_100000, l32_1000000, if_true, if_false, ite_true, ite_false, ce_nm, Option.bind, if_pos, if_neg, c441]

theorem cn_lt {m : Nat → Nat} (ok : OkG m) {a v : Nat} (h : Cn (og m) a v) (ha : a < m 2) : v < m 2 :=
  h (fun x => x < m 2) (fun u w huw _ => by
    obtain ⟨e, e1, e2, e3, e4⟩ := huw
    obtain ⟨g1, g2, g3⟩ := ok.2.2.2.1 e e1 e3
    have := (ok.2.2.2.2 (og m e - 1) (by omega) (by omega)).1
    omega) ha
/-- what Buses holds -/
def CB (h : Hp) (m : Nat → Nat) : Prop := h 44 0 = nI (ct (fun u => bo (lst (og m) u = u)) (m 2)) ∧ h 44 1 = nI (ct (fun u => bo (lst (og m) u = u ∧ sz (og m) u ≤ cb (og m) u)) (m 2)) ∧ (∀ u, u < 10 → h 45 u = if bo (u < m 2) = true then nI (lst (og m) u) else mm) ∧ ∀ u, u < m 2 → lst (og m) u = u → h 46 u = nI (sz (og m) u) ∧ h 47 u = nI (cb (og m) u)
/-- Buses.mark -/
theorem x_mark {m : Nat → Nat} {k F : Nat} {h : Hp} (hk : ce_isNet k) (ok : OkG m) (cn : CNw h k m) (hF : 1000 ≤ F) : Ev (f2_mark F k h) (fun h' => Fr 40 47 h h' ∧ CB h' m) := by
  obtain ⟨k1, k2, k3, k4, k5⟩ := id ok
  unfold f2_mark
  refine Ev.nm (Ev.nm (Ev.bind (x_fill (n := 10) (by omega) (by omega)) (fun h1 hh1 => ?_)))
  obtain ⟨a1, a2⟩ := hh1
  have f1 : Fr 40 47 h h1 := fun c hc => by rw [a1 c (by omega), up_kk _ _ _ _ _ (by omega), up_kk _ _ _ _ _ (by omega)]
  refine Ev.bind (P := fun h' => Fr 40 47 h h' ∧ CB h' m) ?_ (fun r hr => Ev.some hr)
  refine Ev.it (I := fun v st => st.1 = nI v ∧ Fr 40 47 h st.2 ∧ st.2 44 0 = nI (ct (fun u => bo (lst (og m) u = u)) v) ∧ st.2 44 1 = nI (ct (fun u => bo (lst (og m) u = u ∧ sz (og m) u ≤ cb (og m) u)) v) ∧ (∀ u, u < 10 → st.2 45 u = if bo (u < m 2 ∧ lst (og m) u < v) = true then nI (lst (og m) u) else mm) ∧ ∀ u, u < v → lst (og m) u = u → st.2 46 u = nI (sz (og m) u) ∧ st.2 47 u = nI (cb (og m) u)) _ (m 2) ?_ F 0 _ (by omega) (by omega) ⟨rfl, f1, ?_, ?_, fun u hu => ?_, fun u hu => absurd hu (by omega)⟩
  · rintro v ⟨x, h2⟩ hv hI
    obtain ⟨rfl, i1, i2, i3, i4, i5⟩ : x = nI v ∧ Fr 40 47 h h2 ∧ h2 44 0 = nI (ct (fun u => bo (lst (og m) u = u)) v) ∧ h2 44 1 = nI (ct (fun u => bo (lst (og m) u = u ∧ sz (og m) u ≤ cb (og m) u)) v) ∧ (∀ u, u < 10 → h2 45 u = if bo (u < m 2 ∧ lst (og m) u < v) = true then nI (lst (og m) u) else mm) ∧ ∀ u, u < v → lst (og m) u = u → h2 46 u = nI (sz (og m) u) ∧ h2 47 u = nI (cb (og m) u) := hI
    show Ev (f2_mark_b20 F k (nI v) h2) _
    unfold f2_mark_b20
    have cn2 := cn.fr hk i1 (by omega)
    have c3 := cn2.2.1
    by_cases hin : m 2 ≤ v
    · refine Ev.pos (by simp (disch := omega) only [up_s, up_k, up_j, mm_neg, mm_def, ni_lt, ni_le, ni_eq, ni_mm, mm_ni, ni_lt_mm, ni_le_mm, mm_lt_ni, mm_le_ni, mm_lt_mm, mm_le_mm, ni_cl, ni_in, nI_add, ni_mul, ni_div, ni_rem, ni_rem2, fr_sub, fr_mm, fr_ge0, fr_lt0, fr_inj, l32_0, l32_1, l32_2, l32_3, l32_4, l32_5, l32_6, l32_7, l32_8, l32_9, l32_10, l32_11, l32_12, l32_13, l32_14, l32_15, l32_16, l32_20, l32_24, l32_25, l32_26, l32_31, l32_32, l32_34, l32_35, l32_39, l32_40, l32_44, l32_45, l32_46, l32_47, l32_48, l32_49, l32_57, l32_58, l32_59, l32_63, l32_64, l32_85, l32_90, l32_97, l32_99, l32_100, l32_110, l32_112, l32_122, l32_124, l32_125, l32_255, l32_680, l32_699, l32_700, l32_999, l32_2500, l32_99999, l32_100000, l32_1000000, if_true, if_false, ite_true, ite_false, ce_nm, Option.bind, if_pos, if_neg, c3]; exact hin) (Ev.some ?_)
      have e : v = m 2 := by omega
      subst e
      refine ⟨i1, i2, i3, fun u hu => ?_, i5⟩
      rw [i4 u hu]
      have : (u < m 2 ∧ lst (og m) u < m 2) = (u < m 2) := propext ⟨fun z => z.1, fun z => ⟨z, Nat.lt_of_le_of_lt (lst_le hu (Cn.refl _ _)) z⟩⟩
      rw [this]
    · have hv2 : v < m 2 := by omega
      have hv10 : v < 10 := by omega
      have hlv : lst (og m) v ≤ v := lst_le hv10 (Cn.refl _ _)
      refine Ev.neg (by simp (disch := omega) only [up_s, up_k, up_j, mm_neg, mm_def, ni_lt, ni_le, ni_eq, ni_mm, mm_ni, ni_lt_mm, ni_le_mm, mm_lt_ni, mm_le_ni, mm_lt_mm, mm_le_mm, ni_cl, ni_in, nI_add, ni_mul, ni_div, ni_rem, ni_rem2, fr_sub, fr_mm, fr_ge0, fr_lt0, fr_inj, l32_0, l32_1, l32_2, l32_3, l32_4, l32_5, l32_6, l32_7, l32_8, l32_9, l32_10, l32_11, l32_12, l32_13, l32_14, l32_15, l32_16, l32_20, l32_24, l32_25, l32_26, l32_31, l32_32, l32_34, l32_35, l32_39, l32_40, l32_44, l32_45, l32_46, l32_47, l32_48, l32_49, l32_57, l32_58, l32_59, l32_63, l32_64, l32_85, l32_90, l32_97, l32_99, l32_100, l32_110, l32_112, l32_122, l32_124, l32_125, l32_255, l32_680, l32_699, l32_700, l32_999, l32_2500, l32_99999, l32_100000, l32_1000000, if_true, if_false, ite_true, ite_false, ce_nm, Option.bind, if_pos, if_neg, c3]; exact hin) (Ev.grd (by simp (disch := omega) only [up_s, up_k, up_j, mm_neg, mm_def, ni_lt, ni_le, ni_eq, ni_mm, mm_ni, ni_lt_mm, ni_le_mm, mm_lt_ni, mm_le_ni, mm_lt_mm, mm_le_mm, ni_cl, ni_in, nI_add, ni_mul, ni_div, ni_rem, ni_rem2, fr_sub, fr_mm, fr_ge0, fr_lt0, fr_inj, l32_0, l32_1, l32_2, l32_3, l32_4, l32_5, l32_6, l32_7, l32_8, l32_9, l32_10, l32_11, l32_12, l32_13, l32_14, l32_15, l32_16, l32_20, l32_24, l32_25, l32_26, l32_31, l32_32, l32_34, l32_35, l32_39, l32_40, l32_44, l32_45, l32_46, l32_47, l32_48, l32_49, l32_57, l32_58, l32_59, l32_63, l32_64, l32_85, l32_90, l32_97, l32_99, l32_100, l32_110, l32_112, l32_122, l32_124, l32_125, l32_255, l32_680, l32_699, l32_700, l32_999, l32_2500, l32_99999, l32_100000, l32_1000000, if_true, if_false, ite_true, ite_false, ce_nm, Option.bind, if_pos, if_neg]) ?_)
      rw [ni_cl (by omega)]
      have t1 : ct (fun u => bo (lst (og m) u = u)) (v + 1) = ct (fun u => bo (lst (og m) u = u)) v + (if bo (lst (og m) v = v) = true then 1 else 0) := rfl
      have t2 : ct (fun u => bo (lst (og m) u = u ∧ sz (og m) u ≤ cb (og m) u)) (v + 1) = ct (fun u => bo (lst (og m) u = u ∧ sz (og m) u ≤ cb (og m) u)) v + (if bo (lst (og m) v = v ∧ sz (og m) v ≤ cb (og m) v) = true then 1 else 0) := rfl
      by_cases hl : lst (og m) v < v
      · have e45 : h2 45 v = nI (lst (og m) v) := by rw [i4 v hv10, if_pos (bo_p ⟨hv2, hl⟩)]
        rw [e45]
        refine Ev.neg (fun z => by have z : nI (lst (og m) v) = mm := z; rw [ni_mm (by omega)] at z; exact z) (Ev.some ?_)
        have n1 : ¬ lst (og m) v = v := by omega
        rw [bo_f n1] at t1
        rw [bo_f (fun z => n1 z.1)] at t2
        refine ⟨by omega, nI_1 v, i1, ?_, ?_, fun u hu => ?_, fun u hu hlu => ?_⟩
        · show h2 44 0 = _
          rw [t1]; exact i2
        · show h2 44 1 = _
          rw [t2]; exact i3
        · show h2 45 u = _
          rw [i4 u hu]
          have : (u < m 2 ∧ lst (og m) u < v) = (u < m 2 ∧ lst (og m) u < v + 1) := by
            apply propext
            refine ⟨fun z => ⟨z.1, by omega⟩, fun z => ⟨z.1, ?_⟩⟩
            apply Classical.byContradiction
            intro y
            have y1 : lst (og m) u = v := by omega
            have y2 := lst_lst k4 hu
            rw [y1] at y2
            omega
          rw [this]
        · by_cases y : u = v
          · rw [y] at hlu; omega
          · exact i5 u (by omega) hlu
      · have hlv2 : lst (og m) v = v := by omega
        have e45 : h2 45 v = mm := by rw [i4 v hv10, if_neg (by rw [bo_t]; omega)]
        rw [e45]
        refine Ev.pos rfl ?_
        rw [show (-1 : Int32) = fr 0 from rfl]
        refine Ev.bind (x_start hk ok cn2 (by omega) hv2 hF) (fun h3 hh3 => ?_)
        obtain ⟨f3, s, q, hp, dy, B, bf⟩ := hh3
        rw [cu0] at bf
        have f3' := f3.fr
        have c44 : h3 44 = h2 44 := f3' 44 (by omega)
        have hc1 := ct_le (fun u => bo (lst (og m) u = u)) v
        have hc2 := ct_le (fun u => bo (lst (og m) u = u ∧ sz (og m) u ≤ cb (og m) u)) v
        refine Ev.bind (x_markOne hk ok (cn2.fw hk f3) hv2 B bf (by rw [c44]; exact i2) (by rw [c44]; exact i3) (by omega) (by omega) hF) (fun h4 hh4 => Ev.some ?_)
        obtain ⟨g1, g2, g3, g4, g5, g6⟩ := hh4
        rw [bo_p hlv2] at t1
        refine ⟨by omega, nI_1 v, (i1.trans (f3'.wide (by omega) (by omega))).trans (g1.wide (by omega) (by omega)), ?_, ?_, fun u hu => ?_, fun u hu hlu => ?_⟩
        · show h4 44 0 = _
          rw [t1]; exact g5
        · show h4 44 1 = _
          rw [t2, g6]
          by_cases y : sz (og m) v ≤ cb (og m) v
          · rw [if_pos y, if_pos (bo_p ⟨hlv2, y⟩)]
          · rw [if_neg y, if_neg (by rw [bo_t]; exact fun z => y z.2)]; rfl
        · show h4 45 u = _
          rw [g2 u hu]
          by_cases y : Cn (og m) v u
          · have y1 := lst_eq k4 y
            rw [if_pos (bo_p y), if_pos (bo_p ⟨cn_lt ok y hv2, by omega⟩), ← y1, hlv2]
          · rw [if_neg (by rw [bo_t]; exact y), f3' 45 (by omega), i4 u hu]
            have : (u < m 2 ∧ lst (og m) u < v) = (u < m 2 ∧ lst (og m) u < v + 1) := by
              apply propext
              refine ⟨fun z => ⟨z.1, by omega⟩, fun z => ⟨z.1, ?_⟩⟩
              apply Classical.byContradiction
              intro y9
              have y1 : lst (og m) u = lst (og m) v := by omega
              exact y (((lst_iff k4 hu hv10).mp y1).symm k4)
            rw [this]
        · show h4 46 u = _ ∧ h4 47 u = _
          rw [g3, g4, f3' 46 (by omega), f3' 47 (by omega)]
          by_cases y : u = v
          · rw [y]; simp [upd]
          · simp only [upd, y, if_false]
            exact i5 u (by omega) hlu
  · show h1 44 0 = _
    rw [a1 44 (by omega), up_j _ _ _ _ _ (by omega), up_s]; rfl
  · show h1 44 1 = _
    rw [a1 44 (by omega), up_s]; rfl
  · show h1 45 u = _
    rw [a2 u hu, if_neg (by rw [bo_t]; omega)]
    rfl
