-- searching loops; parents, roles, children, roots in both
/-- the first one that has it, + 1 -/
def fi (q : Nat → Bool) : Nat → Nat
  | 0 => 0
  | n + 1 => if fi q n ≠ 0 then fi q n else if q n = true then n + 1 else 0
theorem fi_s (q : Nat → Bool) (n : Nat) : fi q (n + 1) = if fi q n ≠ 0 then fi q n else if q n = true then n + 1 else 0 := rfl
theorem fi_spec (q : Nat → Bool) (n : Nat) : (fi q n = 0 ∧ ∀ i, i < n → q i = false) ∨ (fi q n ≠ 0 ∧ fi q n ≤ n ∧ q (fi q n - 1) = true ∧ ∀ i, i < fi q n - 1 → q i = false) := by
  induction n with
  | zero => exact Or.inl ⟨rfl, fun i hi => absurd hi (by omega)⟩
  | succ n ih =>
    rw [fi_s]
    rcases ih with ⟨a, b⟩ | ⟨a, b, c, d⟩
    · rw [if_neg (by omega)]
      cases hq : q n with
      | true =>
        rw [if_pos rfl]
        exact Or.inr ⟨by omega, by omega, hq, fun i hi => b i (by omega)⟩
      | false =>
        rw [if_neg (by simp)]
        refine Or.inl ⟨rfl, fun i hi => ?_⟩
        by_cases z : i = n
        · rw [z]; exact hq
        · exact b i (by omega)
    · rw [if_pos a]
      exact Or.inr ⟨a, by omega, c, d⟩
theorem fi_none {q : Nat → Bool} {n : Nat} (h : ∀ i, i < n → q i = false) : fi q n = 0 := by
  rcases fi_spec q n with ⟨a, b⟩ | ⟨a, b, c, d⟩
  · exact a
  · have := h (fi q n - 1) (by omega)
    rw [c] at this
    exact absurd this (by simp)
theorem fi_some {q : Nat → Bool} {n j : Nat} (hj : j < n) (h : q j = true) (hb : ∀ i, i < j → q i = false) : fi q n = j + 1 := by
  rcases fi_spec q n with ⟨a, b⟩ | ⟨a, b, c, d⟩
  · have := b j hj
    rw [h] at this
    exact absurd this (by simp)
  · have h1 : ¬ fi q n - 1 < j := fun z => by have := hb _ z; rw [c] at this; exact absurd this (by simp)
    have h2 : ¬ j < fi q n - 1 := fun z => by have := d _ z; rw [h] at this; exact absurd this (by simp)
    omega
theorem fi_one {q : Nat → Bool} {n j : Nat} (hj : j < n) (h : q j = true) (hb : ∀ i, i < n → q i = true → i = j) : fi q n = j + 1 := by
  refine fi_some hj h (fun i hi => ?_)
  cases hq : q i with
  | false => rfl
  | true => have := hb i (by omega) hq; omega
theorem fi_congr {p q : Nat → Bool} {n : Nat} (h : ∀ i, i < n → p i = q i) : fi p n = fi q n := by
  induction n with
  | zero => rfl
  | succ n ih => rw [fi_s, fi_s, ih (fun i hi => h i (by omega)), h n (by omega)]
theorem fi_ext {q : Nat → Bool} {n N : Nat} (hN : n ≤ N) (h : ∀ i, n ≤ i → i < N → q i = false) : fi q N = fi q n := by
  rcases fi_spec q n with ⟨a, b⟩ | ⟨a, b, c, d⟩
  · rw [a]
    refine fi_none (fun i hi => ?_)
    by_cases z : i < n
    · exact b i z
    · exact h i (by omega) hi
  · rw [fi_some (j := fi q n - 1) (by omega) c d]
    omega
theorem find_it {α : Type} {B : Int32 × Hp → Option ((Int32 × Hp) ⊕ (α ⊕ Hp))} (q : Nat → Bool) (val : Nat → α) (n : Nat) (h : Hp) {F : Nat} (hn : n < F) (step : ∀ i, i ≤ n → (∀ j, j < i → q j = false) → B (nI i, h) = if i = n then some (.inr (.inr h)) else if q i = true then some (.inr (.inl (val i))) else some (.inl (nI (i + 1), h))) :
    ce_it B F (nI 0, h) = some (if fi q n = 0 then .inr h else .inl (val (fi q n - 1))) := by
  have key : Ev (ce_it B F (nI 0, h)) (fun o => o = (if fi q n = 0 then .inr h else .inl (val (fi q n - 1)))) := by
    refine Ev.it (I := fun i st => st = (nI i, h) ∧ ∀ j, j < i → q j = false) _ n ?_ F 0 _ (by omega) (by omega) ⟨rfl, fun j hj => absurd hj (by omega)⟩
    rintro i st hi ⟨rfl, hI⟩
    rw [step i hi hI]
    by_cases z : i = n
    · rw [if_pos z]
      refine Ev.some ?_
      rw [fi_none (fun j hj => hI j (by omega)), if_pos rfl]
    · rw [if_neg z]
      cases hq : q i with
      | true =>
        rw [if_pos rfl]
        refine Ev.some ?_
        rw [fi_some (by omega : i < n) hq hI, if_neg (by omega)]
        rfl
      | false =>
        rw [if_neg (by simp)]
        refine Ev.some ⟨by omega, rfl, fun j hj => ?_⟩
        by_cases y : j = i
        · rw [y]; exact hq
        · exact hI j (by omega)
  obtain ⟨r, hr, e⟩ := key
  rw [hr, e]
/-- parents are ends of the nodes themselves -/
def PO (o P : Nat → Nat) : Prop := ∀ v, v < 10 → P v ≠ 0 → P v ≤ 40 ∧ (P v - 1) / 4 = v ∧ o (P v - 1) ≠ 0
def par (o P : Nat → Nat) (v : Nat) : Nat := if P v = 0 then 0 else (o (P v - 1) - 1) / 4 + 1
def ch (o P : Nat → Nat) (e : Nat) : Bool := decide (o e ≠ 0) && decide (P ((o e - 1) / 4) = o e)
theorem ch_t {o P : Nat → Nat} {e : Nat} : (ch o P e = true) = (o e ≠ 0 ∧ P ((o e - 1) / 4) = o e) := by
  unfold ch
  simp
def ro (o P : Nat → Nat) (e : Nat) : Nat := if o e = 0 then 0 else if P (e / 4) = e + 1 then 1 else if ch o P e = true then 2 else 3
theorem PO.le {o P : Nat → Nat} (po : PO o P) {v : Nat} (hv : v < 10) : P v ≤ 40 := by
  by_cases z : P v = 0
  · omega
  · exact (po v hv z).1
theorem x_roleOf {m P : Nat → Nat} {k kn e F : Nat} {h : Hp} (ok : OkG m) (cn : CNw h kn m) (po : PO (og m) P) (cp : ∀ v, v < 10 → h (k + 4) v = fr (P v)) (he : e < 40) : f3_roleOf F k kn (nI e) h = some (nI (ro (og m) P e), h) := by
  have g := ok.2.2.2.1
  have hog := og_le g he
  have n4 := cn.2.2.2.1 e he
  refine Ev.eq ?_
  unfold f3_roleOf ro
  rw [x_isCabled F kn e (og m e) h he (by omega) n4]
  refine ev_bs ?_
  dsimp only
  by_cases z : og m e = 0
  · refine Ev.pos (by rw [if_pos z]; rfl) (Ev.some ?_)
    rw [if_pos z]
    rfl
  · have l1 := po.le (v := e / 4) (by omega)
    have l2 := po.le (v := (og m e - 1) / 4) (by omega)
    refine Ev.neg (by rw [if_neg z]; decide) ?_
    rw [x_nodeOf _ _ _ (by omega)]
    refine ev_bs ?_
    dsimp only
    refine Ev.grd (ni_in (by omega) (by omega)) ?_
    rw [ni_cl (by omega), if_neg z]
    by_cases y : P (e / 4) = e + 1
    · refine Ev.pos (by rw [cp _ (by omega), y, fr_s]) (Ev.some ?_)
      rw [if_pos y]
      rfl
    · refine Ev.neg (by rw [cp _ (by omega), ← fr_s e, fr_inj (by omega) (by omega)]; exact y) (Ev.grd (ni_in (by omega) he) ?_)
      have n5' : h (kn + 5) e = nI (og m e - 1) := by rw [n4, fr_p (by omega)]
      rw [ni_cl (by omega), if_neg y]
      simp only [n5']
      rw [x_nodeOf _ _ _ (by omega)]
      refine ev_bs ?_
      dsimp only
      refine Ev.grd (ni_in (by omega) (by omega)) ?_
      rw [ni_cl (by omega)]
      by_cases x : P ((og m e - 1) / 4) = og m e
      · refine Ev.pos (by rw [cp _ (by omega), x, fr_p (by omega)]) (Ev.some ?_)
        rw [if_pos (ch_t.mpr ⟨z, x⟩)]
        rfl
      · refine Ev.neg (by rw [cp _ (by omega), ← fr_p (by omega : 0 < og m e), fr_inj (by omega) (by omega)]; exact x) (Ev.some ?_)
        rw [if_neg (fun q => x (ch_t.mp q).2)]
        rfl
theorem x_cparent {m P : Nat → Nat} {k kn v F : Nat} {h : Hp} (ok : OkG m) (cn : CNw h kn m) (po : PO (og m) P) (cp : ∀ v, v < 10 → h (k + 4) v = fr (P v)) (hv : v < 10) : f3_parentOf F k kn (nI v) h = some (fr (par (og m) P v), h) := by
  have g := ok.2.2.2.1
  refine Ev.eq ?_
  unfold f3_parentOf par
  refine Ev.grd (ni_in (by omega) hv) ?_
  rw [ni_cl (by omega), cp v hv]
  by_cases z : P v = 0
  · rw [if_pos z, z, fr_0]
    have e1 : f5_isCabled F kn mm h = some (nI 0, h) := by
      unfold f5_isCabled
      rw [if_pos (by decide)]
      rfl
    rw [e1]
    refine ev_bs ?_
    exact Ev.pos rfl (Ev.some rfl)
  · obtain ⟨a1, a2, a3⟩ := po v hv z
    have hog := og_le g (e := P v - 1) (by omega)
    rw [if_neg z, fr_p (by omega : 0 < P v), x_isCabled F kn _ (og m (P v - 1)) h (by omega) (by omega) (cn.2.2.2.1 _ (by omega))]
    refine ev_bs ?_
    dsimp only
    refine Ev.neg (by rw [if_neg a3]; decide) (Ev.grd (ni_in (by omega) (by omega)) ?_)
    rw [ni_cl (by omega), cn.2.2.2.1 _ (by omega), fr_p (by omega : 0 < og m (P v - 1)), x_nodeOf _ _ _ (by omega)]
    refine ev_bs (Ev.some ?_)
    rw [fr_s]
theorem x_mparent {m P : Nat → Nat} {v F : Nat} {h : Hp} (ok : OkG m) (c : MN h m) (po : PO (og m) P) (cp : ∀ v, v < m 2 → h 82 v = fr (P v)) (hv : v < m 2) : f12_parentOf F (nI v) h = some (fr (par (og m) P v), h) := by
  have g := ok.2.2.2.1
  have h2 := ok.2.1
  refine Ev.eq ?_
  unfold f12_parentOf par
  refine Ev.grd (ni_in (by omega) (by omega)) ?_
  rw [ni_cl (by omega), cp v hv]
  by_cases z : P v = 0
  · rw [if_pos z, z, fr_0]
    exact Ev.pos rfl (Ev.some rfl)
  · obtain ⟨a1, a2, a3⟩ := po v (by omega) z
    have hog := og_le g (e := P v - 1) (by omega)
    rw [if_neg z, fr_p (by omega : 0 < P v)]
    refine Ev.neg (by simp (disch := omega) only [up_s, up_k, up_j, mm_neg, mm_def, ni_lt, ni_le, ni_eq, ni_mm, mm_ni, ni_lt_mm, ni_le_mm, mm_lt_ni, mm_le_ni, mm_lt_mm, mm_le_mm, ni_cl, ni_in, nI_add, ni_mul, ni_div, ni_rem, ni_rem2, fr_sub, fr_mm, fr_ge0, fr_lt0, fr_inj, l32_0, l32_1, l32_2, l32_3, l32_4, l32_5, l32_6, l32_7, l32_8, l32_9, l32_10, l32_11, l32_12, l32_13, l32_14, l32_15, l32_16, l32_20, l32_24, l32_25, l32_26, l32_31, l32_32, l32_34, l32_35, l32_39, l32_40, l32_44, l32_45, l32_46, l32_47, l32_48, l32_49, l32_57, l32_58, l32_59, l32_63, l32_64, l32_85, l32_90, l32_97, l32_99, l32_100, l32_110, l32_112, l32_122, l32_124, l32_125, l32_255, l32_680, l32_699, l32_700, l32_999, l32_2500, l32_99999, l32_100000, l32_1000000, if_true, if_false, ite_true, ite_false, ce_nm, Option.bind, if_pos, if_neg]; exact id) (Ev.grd (ni_in (by omega) (by omega)) ?_)
    rw [x_otherN c (by omega) a3]
    refine ev_bs ?_
    refine Ev.some ?_
    dsimp only
    rw [l32_4, ni_div (by omega) (by omega) (by omega), fr_s]
theorem x_isChild {m P : Nat → Nat} {e F : Nat} {h : Hp} (ok : OkG m) (c : MN h m) (po : PO (og m) P) (cp : ∀ v, v < m 2 → h 82 v = fr (P v)) (he : e < 40) : f12_isChild F (nI e) h = some (if ch (og m) P e = true then nI 1 else nI 0, h) := by
  have g := ok.2.2.2.1
  have h2 := ok.2.1
  have hog := og_le g he
  refine Ev.eq ?_
  unfold f12_isChild
  rw [x_otherOf c he]
  refine ev_bs ?_
  dsimp only
  by_cases z : og m e = 0
  · refine Ev.pos (by rw [z]; decide) (Ev.some ?_)
    rw [if_neg (fun q => (ch_t.mp q).1 z)]
    rfl
  · obtain ⟨g1, g2, g3⟩ := g e he z
    have hw := (ok.2.2.2.2 (og m e - 1) (by omega) (by rw [g2]; omega)).1
    have l2 := po.le (v := (og m e - 1) / 4) (by omega)
    rw [fr_p (by omega : 0 < og m e), l32_4, ni_div (by omega) (by omega) (by omega)]
    refine Ev.neg (by simp (disch := omega) only [up_s, up_k, up_j, mm_neg, mm_def, ni_lt, ni_le, ni_eq, ni_mm, mm_ni, ni_lt_mm, ni_le_mm, mm_lt_ni, mm_le_ni, mm_lt_mm, mm_le_mm, ni_cl, ni_in, nI_add, ni_mul, ni_div, ni_rem, ni_rem2, fr_sub, fr_mm, fr_ge0, fr_lt0, fr_inj, l32_0, l32_1, l32_2, l32_3, l32_4, l32_5, l32_6, l32_7, l32_8, l32_9, l32_10, l32_11, l32_12, l32_13, l32_14, l32_15, l32_16, l32_20, l32_24, l32_25, l32_26, l32_31, l32_32, l32_34, l32_35, l32_39, l32_40, l32_44, l32_45, l32_46, l32_47, l32_48, l32_49, l32_57, l32_58, l32_59, l32_63, l32_64, l32_85, l32_90, l32_97, l32_99, l32_100, l32_110, l32_112, l32_122, l32_124, l32_125, l32_255, l32_680, l32_699, l32_700, l32_999, l32_2500, l32_99999, l32_100000, l32_1000000, if_true, if_false, ite_true, ite_false, ce_nm, Option.bind, if_pos, if_neg]; omega) (Ev.grd (ni_in (by omega) (by omega)) ?_)
    rw [ni_cl (by omega)]
    by_cases x : P ((og m e - 1) / 4) = og m e
    · refine Ev.pos (by rw [cp _ hw, x, fr_p (by omega)]) (Ev.some ?_)
      rw [if_pos (ch_t.mpr ⟨z, x⟩)]
      rfl
    · refine Ev.neg (by rw [cp _ hw, ← fr_p (by omega : 0 < og m e), fr_inj (by omega) (by omega)]; exact x) (Ev.some ?_)
      rw [if_neg (fun q => x (ch_t.mp q).2)]
      rfl
