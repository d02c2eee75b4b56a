-- the election's events, one after the other
def mn (f : Nat → Nat) : Nat → Nat
  | 0 => 1000000
  | n + 1 => min (mn f n) (f n)
theorem mn_succ (f : Nat → Nat) (n : Nat) : mn f (n + 1) = min (mn f n) (f n) := rfl
theorem mn_top (f : Nat → Nat) (n : Nat) : mn f n ≤ 1000000 := by
  induction n with
  | zero => exact Nat.le_refl _
  | succ n ih => rw [mn_succ]; omega
theorem mn_le {f : Nat → Nat} {n i : Nat} (hi : i < n) : mn f n ≤ f i := by
  induction n with
  | zero => omega
  | succ n ih =>
    rw [mn_succ]
    by_cases z : i = n
    · rw [z]; omega
    · have := ih (by omega); omega
theorem mn_ex {f : Nat → Nat} {n : Nat} : mn f n = 1000000 ∨ ∃ i, i < n ∧ mn f n = f i := by
  induction n with
  | zero => exact Or.inl rfl
  | succ n ih =>
    rw [mn_succ]
    by_cases z : f n < mn f n
    · exact Or.inr ⟨n, by omega, by omega⟩
    · rcases ih with h | ⟨i, h1, h2⟩
      · exact Or.inl (by omega)
      · exact Or.inr ⟨i, by omega, by omega⟩
def nf0 (s : Es) (t : Nat) : Nat → Nat := fun e => if s 0 e = 0 ∨ s 0 e ≤ t + 1 then 1000000 else s 0 e - 1
def nf3 (wt : Nat → Nat) (s : Es) (t : Nat) : Nat → Nat := fun v => if s 3 v = 0 ∨ s 3 v - 1 + wt v ≤ t then 1000000 else s 3 v - 1 + wt v
def nx (wt : Nat → Nat) (s : Es) (t : Nat) : Nat := min (mn (nf0 s t) 40) (mn (nf3 wt s t) 10)
noncomputable def kE (wt : Nat → Nat) (s : Es) (t : Nat) : Nat := ct (fun e => bo (s 0 e ≠ 0 ∧ s 0 e ≤ t + 1)) 40 + ct (fun v => bo (s 3 v ≠ 0 ∧ s 3 v - 1 + wt v ≤ t)) 10
theorem es_keep {m wt : Nat → Nat} {t i : Nat} {s : Es} (ok : OkG m) (hi : i < m 2) (E : EM (og m) m wt t i s) : (∀ e, e < 40 → s 0 e ≠ 0 → es (og m) m wt t i s 0 e = s 0 e) ∧ ∀ v, s 3 v ≠ 0 → es (og m) m wt t i s 3 v = s 3 v := by
  have g := ok.2.2.2.1
  have h2 := ok.2.1
  obtain ⟨e1, e2, e3, e4, e5, e6, e7, e8, e9, e10⟩ := E
  unfold es
  by_cases d : s 1 i ≠ 0 ∨ s 4 i ≠ 0
  · rw [if_pos d]; exact ⟨fun _ _ _ => rfl, fun _ _ => rfl⟩
  · rw [if_neg d]
    have d1 : s 1 i = 0 := by omega
    by_cases c0 : ct (si (og m) s t i) 4 = 0
    · rw [if_pos c0]
      exact ⟨fun e _ _ => u2_k (by omega), fun v _ => u2_k (by omega)⟩
    · rw [if_neg c0]
      by_cases c1 : ct (si (og m) s t i) 4 = 1
      · rw [if_pos c1]
        have k3 : ∀ v, s 3 v ≠ 0 → u2 s 3 i (if s 3 i = 0 then t + 1 else s 3 i) 3 v = s 3 v := fun v hv => by
          by_cases z : v = i
          · subst z; rw [u2_s, if_neg hv]
          · exact u2_j z
        by_cases due : (if s 3 i = 0 then t else s 3 i - 1) + wt i ≤ t
        · rw [if_pos due]
          obtain ⟨p1, p2, p3⟩ := lp_spec (si (og m) s t i) 4
          have pz : lp (si (og m) s t i) 4 ≠ 0 := fun z => c0 (p3 z)
          have psi := p2 pz
          obtain ⟨p, hp⟩ : ∃ p, p = lp (si (og m) s t i) 4 - 1 := ⟨_, rfl⟩
          rw [← hp] at psi ⊢
          obtain ⟨q1, q2⟩ := si_t.mp psi
          have he40 : 4 * i + p < 40 := by omega
          obtain ⟨g1, g2, g3⟩ := g (4 * i + p) he40 q1
          have old0 : s 0 (og m (4 * i + p) - 1) = 0 := by
            apply Classical.byContradiction
            intro z
            have := (e1 _ (by omega) z).2.1
            rw [g2, show (4 * i + p + 1 - 1) / 4 = i by omega] at this
            exact this d1
          unfold cl
          refine ⟨fun e he h0 => ?_, fun v hv => ?_⟩
          · have ne : e ≠ og m (4 * i + p) - 1 := by intro z; rw [z] at h0; exact h0 old0
            rw [u2_j ne, u2_k (by omega), u2_k (by omega), u2_k (by omega)]
          · rw [u2_k (by omega), u2_k (by omega), u2_k (by omega)]
            exact k3 v hv
        · rw [if_neg due]
          exact ⟨fun e _ _ => u2_k (by omega), k3⟩
      · rw [if_neg c1]; exact ⟨fun _ _ _ => rfl, fun _ _ => rfl⟩
theorem eT_keep {m wt : Nat → Nat} {t : Nat} {s : Es} (ok : OkG m) (E : EM (og m) m wt t 0 s) : ∀ n, n ≤ m 2 → (∀ e, e < 40 → s 0 e ≠ 0 → eT (og m) m wt t n s 0 e = s 0 e) ∧ ∀ v, s 3 v ≠ 0 → eT (og m) m wt t n s 3 v = s 3 v := by
  intro n
  induction n with
  | zero => intro _; exact ⟨fun _ _ _ => rfl, fun _ _ => rfl⟩
  | succ n ih =>
    intro hn
    obtain ⟨i1, i2⟩ := ih (by omega)
    obtain ⟨k1, k2⟩ := es_keep ok (show n < m 2 by omega) (EM_T ok E n (by omega))
    refine ⟨fun e he h0 => ?_, fun v hv => ?_⟩
    · have := i1 e he h0
      show es (og m) m wt t n (eT (og m) m wt t n s) 0 e = _
      rw [k1 e he (by rw [this]; exact h0), this]
    · have := i2 v hv
      show es (og m) m wt t n (eT (og m) m wt t n s) 3 v = _
      rw [k2 v (by rw [this]; exact hv), this]
theorem rM_keep {m wt : Nat → Nat} (ok : OkG m) (t : Nat) : (∀ e, e < 40 → rM (og m) m wt (m 2) t 0 e ≠ 0 → rM (og m) m wt (m 2) (t + 1) 0 e = rM (og m) m wt (m 2) t 0 e) ∧ ∀ v, rM (og m) m wt (m 2) t 3 v ≠ 0 → rM (og m) m wt (m 2) (t + 1) 3 v = rM (og m) m wt (m 2) t 3 v := eT_keep ok (EM_r ok t) (m 2) (Nat.le_refl _)
theorem kE_le {m wt : Nat → Nat} {t i T : Nat} {s : Es} (g : Gr (og m)) (E : EM (og m) m wt t i s) : kE wt s T ≤ 20 := by
  unfold kE
  have h1 : ct (fun e => bo (s 0 e ≠ 0 ∧ s 0 e ≤ T + 1)) 40 ≤ ct (fun _ => true) 10 := by
    refine ct_inj (fun e => (og m e - 1) / 4) (fun e he hp => ?_) (fun e f he hf hp hq hef => ?_)
    · obtain ⟨b1, b2⟩ := bo_t.mp hp
      obtain ⟨a1, a2, a3⟩ := E.1 e he b1
      exact ⟨by have := (g e he a1).1; omega, rfl⟩
    · obtain ⟨b1, b2⟩ := bo_t.mp hp
      obtain ⟨c1, c2⟩ := bo_t.mp hq
      obtain ⟨a1, a2, a3⟩ := E.1 e he b1
      obtain ⟨d1, d2, d3⟩ := E.1 f hf c1
      have hef : (og m e - 1) / 4 = (og m f - 1) / 4 := hef
      rw [hef, d3] at a3
      have r1 := (g e he a1).2.1
      have r2 := (g f hf d1).2.1
      rw [a3] at r2
      omega
  have h2 := ct_le (fun _ => true) 10
  have h3 := ct_le (fun v => bo (s 3 v ≠ 0 ∧ s 3 v - 1 + wt v ≤ T)) 10
  omega
theorem kE_up {wt : Nat → Nat} {s s' : Es} {t t' : Nat} (h0 : ∀ e, e < 40 → s 0 e ≠ 0 → s' 0 e = s 0 e) (h3 : ∀ v, s 3 v ≠ 0 → s' 3 v = s 3 v) (ht : t ≤ t') : kE wt s t ≤ kE wt s' t' := by
  unfold kE
  have h1 : ct (fun e => bo (s 0 e ≠ 0 ∧ s 0 e ≤ t + 1)) 40 ≤ ct (fun e => bo (s' 0 e ≠ 0 ∧ s' 0 e ≤ t' + 1)) 40 := ct_mono (fun e he hp => by
    obtain ⟨b1, b2⟩ := bo_t.mp hp
    have := h0 e he b1
    exact bo_p ⟨by omega, by omega⟩)
  have h2 : ct (fun v => bo (s 3 v ≠ 0 ∧ s 3 v - 1 + wt v ≤ t)) 10 ≤ ct (fun v => bo (s' 3 v ≠ 0 ∧ s' 3 v - 1 + wt v ≤ t')) 10 := ct_mono (fun e he hp => by
    obtain ⟨b1, b2⟩ := bo_t.mp hp
    have := h3 e b1
    exact bo_p ⟨by omega, by omega⟩)
  omega
theorem ct_lt {p q : Nat → Bool} {n j : Nat} (h : ∀ i, i < n → p i = true → q i = true) (hj : j < n) (hp : p j = false) (hq : q j = true) : ct p n < ct q n := by
  have h1 := ct_del hj hq
  have h2 : ct p n ≤ ct (fun i => q i && !(i == j)) n := ct_mono (fun i hi hpi => by
    have hne : (i == j) = false := by
      simp
      intro z
      rw [z, hp] at hpi
      cases hpi
    simp [h i hi hpi, hne])
  omega
theorem kE_grow {wt : Nat → Nat} {s : Es} {t t' : Nat} (ht : t < t') (h : (∃ e, e < 40 ∧ s 0 e = t' + 1) ∨ ∃ v, v < 10 ∧ s 3 v ≠ 0 ∧ s 3 v - 1 + wt v = t') : kE wt s t < kE wt s t' := by
  unfold kE
  have h1 : ct (fun e => bo (s 0 e ≠ 0 ∧ s 0 e ≤ t + 1)) 40 ≤ ct (fun e => bo (s 0 e ≠ 0 ∧ s 0 e ≤ t' + 1)) 40 := ct_mono (fun e he hp => by
    obtain ⟨b1, b2⟩ := bo_t.mp hp
    exact bo_p ⟨by omega, by omega⟩)
  have h2 : ct (fun v => bo (s 3 v ≠ 0 ∧ s 3 v - 1 + wt v ≤ t)) 10 ≤ ct (fun v => bo (s 3 v ≠ 0 ∧ s 3 v - 1 + wt v ≤ t')) 10 := ct_mono (fun e he hp => by
    obtain ⟨b1, b2⟩ := bo_t.mp hp
    exact bo_p ⟨by omega, by omega⟩)
  rcases h with ⟨e, he, h0⟩ | ⟨v, hv, h3, h4⟩
  · have h1' : ct (fun e => bo (s 0 e ≠ 0 ∧ s 0 e ≤ t + 1)) 40 < ct (fun e => bo (s 0 e ≠ 0 ∧ s 0 e ≤ t' + 1)) 40 := ct_lt (fun e he hp => by
      obtain ⟨b1, b2⟩ := bo_t.mp hp
      exact bo_p ⟨by omega, by omega⟩) he (bo_f (by omega)) (bo_p ⟨by omega, by omega⟩)
    omega
  · have h2' : ct (fun v => bo (s 3 v ≠ 0 ∧ s 3 v - 1 + wt v ≤ t)) 10 < ct (fun v => bo (s 3 v ≠ 0 ∧ s 3 v - 1 + wt v ≤ t')) 10 := ct_lt (fun e he hp => by
      obtain ⟨b1, b2⟩ := bo_t.mp hp
      exact bo_p ⟨by omega, by omega⟩) hv (bo_f (by omega)) (bo_p ⟨h3, by omega⟩)
    omega
/-- all has come, all waits are over -/
def Qt (wt : Nat → Nat) (s : Es) : Prop := (∀ e, e < 40 → s 0 e ≤ 700) ∧ ∀ v, v < 10 → s 3 v ≠ 0 → s 3 v - 1 + wt v < 700
theorem ev_next {m wt : Nat → Nat} {T : Nat} (ok : OkG m) (hw : ∀ v, v < 10 → wt v ≤ 20) (hT : T ≤ 600) :
    (nx wt (rM (og m) m wt (m 2) (T + 1)) T = 1000000 ∧ rM (og m) m wt (m 2) 700 = rM (og m) m wt (m 2) (T + 1) ∧ Qt wt (rM (og m) m wt (m 2) 700)) ∨
    (T < nx wt (rM (og m) m wt (m 2) (T + 1)) T ∧ nx wt (rM (og m) m wt (m 2) (T + 1)) T ≤ T + 20 ∧ rM (og m) m wt (m 2) (nx wt (rM (og m) m wt (m 2) (T + 1)) T) = rM (og m) m wt (m 2) (T + 1) ∧ kE wt (rM (og m) m wt (m 2) T) T < kE wt (rM (og m) m wt (m 2) (nx wt (rM (og m) m wt (m 2) (T + 1)) T)) (nx wt (rM (og m) m wt (m 2) (T + 1)) T)) := by
  have kp := rM_keep (wt := wt) ok T
  have E := EM_e (wt := wt) ok T
  have idle : ∀ u, _ → _ → ∀ d, T + 1 + d ≤ u + 1 → _ := fun u => rM_idle (wt := wt) ok (t := T) (u := u)
  obtain ⟨s0, hs0⟩ : ∃ s0, s0 = rM (og m) m wt (m 2) T := ⟨_, rfl⟩
  obtain ⟨s, hs⟩ : ∃ s, s = rM (og m) m wt (m 2) (T + 1) := ⟨_, rfl⟩
  rw [← hs, ← hs0] at kp ⊢
  rw [← hs] at E idle
  have hT0 : mn (nf0 s T) 40 ≤ 1000000 := mn_top _ _
  have hT3 : mn (nf3 wt s T) 10 ≤ 1000000 := mn_top _ _
  obtain ⟨N, hN⟩ : ∃ N, N = nx wt s T := ⟨_, rfl⟩
  rw [← hN]
  unfold nx at hN
  have a0 : ∀ e, e < 40 → s 0 e = 0 ∨ s 0 e ≤ T + 1 ∨ N + 1 ≤ s 0 e := fun e he => by
    have h1 : mn (nf0 s T) 40 ≤ nf0 s T e := mn_le he
    by_cases z : s 0 e = 0 ∨ s 0 e ≤ T + 1
    · omega
    · have : nf0 s T e = s 0 e - 1 := by unfold nf0; rw [if_neg z]
      omega
  have a3 : ∀ v, v < 10 → s 3 v ≠ 0 → s 3 v - 1 + wt v ≤ T ∨ N ≤ s 3 v - 1 + wt v := fun v hv h3 => by
    have h1 : mn (nf3 wt s T) 10 ≤ nf3 wt s T v := mn_le hv
    by_cases z : s 3 v = 0 ∨ s 3 v - 1 + wt v ≤ T
    · omega
    · have : nf3 wt s T v = s 3 v - 1 + wt v := by unfold nf3; rw [if_neg z]
      omega
  by_cases hm : N = 1000000
  · left
    have id := idle 699 (fun e he => by have := a0 e he; omega) (fun v hv h3 => by have := a3 v hv h3; omega) (699 - T) (by omega)
    rw [show T + 1 + (699 - T) = 700 by omega] at id
    refine ⟨hm, id, ?_⟩
    rw [id]
    refine ⟨fun e he => ?_, fun v hv h3 => ?_⟩
    · have h1 := a0 e he
      have h2 := E.2.2.2.2.2.2.1 e he
      omega
    · have h1 := a3 v hv h3
      have h2 := E.2.2.2.2.1 v hv
      have h4 := hw v hv
      omega
  · right
    have ex : (T < N ∧ N ≤ T + 20) ∧ ((∃ e, e < 40 ∧ s 0 e = N + 1) ∨ ∃ v, v < 10 ∧ s 3 v ≠ 0 ∧ s 3 v - 1 + wt v = N) := by
      by_cases z : mn (nf0 s T) 40 < mn (nf3 wt s T) 10
      · rcases mn_ex (f := nf0 s T) (n := 40) with y | ⟨e, he, y⟩
        · omega
        · by_cases q : s 0 e = 0 ∨ s 0 e ≤ T + 1
          · have : nf0 s T e = 1000000 := by unfold nf0; rw [if_pos q]
            omega
          · have : nf0 s T e = s 0 e - 1 := by unfold nf0; rw [if_neg q]
            have h2 := E.2.2.2.2.2.2.1 e he
            exact ⟨by omega, Or.inl ⟨e, he, by omega⟩⟩
      · rcases mn_ex (f := nf3 wt s T) (n := 10) with y | ⟨v, hv, y⟩
        · omega
        · by_cases q : s 3 v = 0 ∨ s 3 v - 1 + wt v ≤ T
          · have : nf3 wt s T v = 1000000 := by unfold nf3; rw [if_pos q]
            omega
          · have : nf3 wt s T v = s 3 v - 1 + wt v := by unfold nf3; rw [if_neg q]
            have h2 := E.2.2.2.2.1 v hv
            have h4 := hw v hv
            exact ⟨by omega, Or.inr ⟨v, hv, by omega, by omega⟩⟩
    obtain ⟨⟨x1, x2⟩, ex⟩ := ex
    have id := idle (N - 1) (fun e he => by have := a0 e he; omega) (fun v hv h3 => by have := a3 v hv h3; omega) (N - 1 - T) (by omega)
    rw [show T + 1 + (N - 1 - T) = N by omega] at id
    refine ⟨x1, x2, id, ?_⟩
    rw [id]
    have c1 : kE wt s0 T ≤ kE wt s T := kE_up kp.1 kp.2 (Nat.le_refl _)
    have c2 := kE_grow x1 ex
    omega
/-- in the end all is quiet -/
theorem quiet {m wt : Nat → Nat} (ok : OkG m) (hw : ∀ v, v < 10 → wt v ≤ 20) : Qt wt (rM (og m) m wt (m 2) 700) := by
  have go : ∀ j, j ≤ 21 → (∃ T, T ≤ 20 * j ∧ j ≤ kE wt (rM (og m) m wt (m 2) T) T) ∨ Qt wt (rM (og m) m wt (m 2) 700) := by
    intro j
    induction j with
    | zero => intro _; exact Or.inl ⟨0, by omega, Nat.zero_le _⟩
    | succ j ih =>
      intro hj
      rcases ih (by omega) with ⟨T, h1, h2⟩ | h
      · rcases ev_next (T := T) ok hw (by omega) with ⟨_, _, q⟩ | ⟨q1, q2, q3, q4⟩
        · exact Or.inr q
        · exact Or.inl ⟨nx wt (rM (og m) m wt (m 2) (T + 1)) T, by omega, by omega⟩
      · exact Or.inr h
  rcases go 21 (Nat.le_refl _) with ⟨T, h1, h2⟩ | h
  · have := kE_le (T := T) ok.2.2.2.1 (EM_r (wt := wt) ok T)
    omega
  · exact h
