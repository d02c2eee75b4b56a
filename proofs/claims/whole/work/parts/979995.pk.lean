-- packets: letters, the pile, who adopts whom
def ls (c : Nat) : Nat := if c = 99 then 3 else if c = 110 then 1 else if c = 112 then 2 else 0
theorem ls_le (c : Nat) : ls c ≤ 3 := by
  unfold ls
  by_cases a : c = 99
  · rw [if_pos a]; omega
  · rw [if_neg a]
    by_cases b : c = 110
    · rw [if_pos b]; omega
    · rw [if_neg b]
      by_cases d : c = 112
      · rw [if_pos d]; omega
      · rw [if_neg d]; omega
theorem ls_v (c : Nat) : (ls c = 3 ↔ c = 99) ∧ (ls c = 1 ↔ c = 110) ∧ (ls c = 2 ↔ c = 112) := by
  unfold ls
  by_cases a : c = 99
  · rw [if_pos a]; omega
  · rw [if_neg a]
    by_cases b : c = 110
    · rw [if_pos b]; omega
    · rw [if_neg b]
      by_cases d : c = 112
      · rw [if_pos d]; omega
      · rw [if_neg d]; omega
/-- the pile's size, the pile, parents, ports up, ports down -/
abbrev Ad : Type := Nat × (Nat → Nat) × (Nat → Nat) × (Nat → Nat) × (Nat → Nat)
def stA (i p c : Nat) (a : Ad) : Ad := if c = 2 then (a.1 - 1, a.2.1, un a.2.2.1 (a.2.1 (a.1 - 1)) (i + 1), a.2.2.2.1, un a.2.2.2.2 (a.2.1 (a.1 - 1)) (p + 1)) else if c = 1 then (a.1, a.2.1, a.2.2.1, un a.2.2.2.1 i (p + 1), a.2.2.2.2) else a
def pkA (i : Nat) (L : Nat → Nat) : Nat → Ad → Ad
  | 0, a => a
  | p + 1, a => pkA i L p (stA i p (L (4 * i + p)) a)
theorem pkA_0 (i : Nat) (L : Nat → Nat) (a : Ad) : pkA i L 0 a = a := rfl
theorem pkA_s (i p : Nat) (L : Nat → Nat) (a : Ad) : pkA i L (p + 1) a = pkA i L p (stA i p (L (4 * i + p)) a) := rfl
def inA (i : Nat) (a : Ad) : Ad := (a.1, a.2.1, un a.2.2.1 i 0, un a.2.2.2.1 i 0, un a.2.2.2.2 i 0)
def puA (i : Nat) (a : Ad) : Ad := (a.1 + 1, un a.2.1 a.1 i, a.2.2)
def adA (i l : Nat) (L : Nat → Nat) (a : Ad) : Ad := puA i (pkA i L l (inA i a))
def bld (len L : Nat → Nat) : Nat → Ad
  | 0 => (0, fun _ => 0, fun _ => 0, fun _ => 0, fun _ => 0)
  | n + 1 => adA n (len n) L (bld len L n)
theorem bld_s (len L : Nat → Nat) (n : Nat) : bld len L (n + 1) = adA n (len n) L (bld len L n) := rfl
theorem pkA_congr {i : Nat} {L L' : Nat → Nat} : ∀ p a, (∀ q, q < p → L (4 * i + q) = L' (4 * i + q)) → pkA i L p a = pkA i L' p a := by
  intro p
  induction p with
  | zero => intro a _; rfl
  | succ p ih =>
    intro a h
    rw [pkA_s, pkA_s, h p (by omega)]
    exact ih _ (fun q hq => h q (by omega))
theorem bld_congr {len L len' L' : Nat → Nat} : ∀ n, (∀ i, i < n → len i = len' i ∧ ∀ p, p < len i → L (4 * i + p) = L' (4 * i + p)) → bld len L n = bld len' L' n := by
  intro n
  induction n with
  | zero => intro _; rfl
  | succ n ih =>
    intro h
    rw [bld_s, bld_s, ih (fun i hi => h i (by omega))]
    obtain ⟨a, b⟩ := h n (by omega)
    unfold adA
    rw [← a, pkA_congr (len n) _ b]
def cq (L : Nat → Nat) (i : Nat) : Nat → Bool := fun p => L (4 * i + p) == 2
theorem ct_s (p : Nat → Bool) (n : Nat) : ct p (n + 1) = ct p n + (if p n = true then 1 else 0) := rfl
theorem pkA_oc {i : Nat} {L : Nat → Nat} : ∀ p a, (pkA i L p a).1 = a.1 - ct (cq L i) p := by
  intro p
  induction p with
  | zero => intro a; rfl
  | succ p ih =>
    intro a
    rw [pkA_s, ih, ct_s]
    by_cases z : L (4 * i + p) = 2
    · have e : cq L i p = true := by unfold cq; simp [z]
      rw [e, if_pos rfl]
      unfold stA
      rw [if_pos z]
      dsimp only
      omega
    · have e : ¬ cq L i p = true := by unfold cq; simp [z]
      rw [if_neg e]
      unfold stA
      rw [if_neg z]
      by_cases y : L (4 * i + p) = 1
      · rw [if_pos y]; rfl
      · rw [if_neg y]; rfl
/-- between packets -/
def gA (len L : Nat → Nat) (n : Nat) (a : Ad) : Prop := a.1 ≤ n ∧ (∀ j, j < a.1 → a.2.1 j < n ∧ a.2.2.1 (a.2.1 j) = 0) ∧ (∀ j j', j < j' → j' < a.1 → a.2.1 j < a.2.1 j') ∧ (∀ k, k < n → a.2.2.1 k ≤ n ∧ (a.2.2.1 k ≠ 0 → k + 1 < a.2.2.1 k)) ∧ ∀ i, i < n → ct (fun k => a.2.2.1 k == i + 1) n = ct (cq L i) (len i)
/-- within packet i, p letters left -/
def gM (len L : Nat → Nat) (i p : Nat) (a : Ad) : Prop := a.1 ≤ i ∧ (∀ j, j < a.1 → a.2.1 j < i ∧ a.2.2.1 (a.2.1 j) = 0) ∧ (∀ j j', j < j' → j' < a.1 → a.2.1 j < a.2.1 j') ∧ (∀ k, k ≤ i → a.2.2.1 k ≤ i + 1 ∧ (a.2.2.1 k ≠ 0 → k + 1 < a.2.2.1 k)) ∧ ct (cq L i) p ≤ a.1 ∧ ct (fun k => a.2.2.1 k == i + 1) i + ct (cq L i) p = ct (cq L i) (len i) ∧ ∀ i', i' < i → ct (fun k => a.2.2.1 k == i' + 1) i = ct (cq L i') (len i')
theorem gA.mid {len L : Nat → Nat} {n : Nat} {a : Ad} (g : gA len L n a) (h : ct (cq L n) (len n) ≤ a.1) : gM len L n (len n) (inA n a) := by
  obtain ⟨oc, os, par, up, dn⟩ := a
  obtain ⟨g1, g2, g3, g4, g5⟩ := g
  dsimp only at g1 g2 g3 g4 g5 h
  have pn : ∀ k, k < n → un par n 0 k = par k := fun k hk => un_n (by omega)
  refine ⟨g1, fun j hj => ?_, g3, fun k hk => ?_, h, ?_, fun i' hi' => ?_⟩
  · have q := g2 j hj
    refine ⟨q.1, ?_⟩
    show un par n 0 (os j) = 0
    rw [pn _ q.1]; exact q.2
  · show un par n 0 k ≤ n + 1 ∧ (un par n 0 k ≠ 0 → k + 1 < un par n 0 k)
    by_cases z : k = n
    · rw [z, un_s]; exact ⟨by omega, fun q => absurd rfl q⟩
    · rw [pn k (by omega)]
      have q := g4 k (by omega)
      exact ⟨by omega, q.2⟩
  · show ct (fun k => un par n 0 k == n + 1) n + ct (cq L n) (len n) = ct (cq L n) (len n)
    rw [ct0 (fun k hk => ?_), Nat.zero_add]
    rw [pn k hk]
    have q := (g4 k hk).1
    simp
    omega
  · show ct (fun k => un par n 0 k == i' + 1) n = _
    rw [← g5 i' hi']
    exact ct_congr (fun k hk => by rw [pn k hk])
theorem ct_add1 {q q' : Nat → Bool} {n j : Nat} (hj : j < n) (h0 : q j = false) (h1 : q' j = true) (hs : ∀ k, k ≠ j → q' k = q k) : ct q' n = ct q n + 1 := by
  have d := ct_del (q := q') (j := j) (n := n) hj h1
  have e : ct (fun i => q' i && !(i == j)) n = ct q n := ct_congr (fun i hi => by
    by_cases z : i = j
    · rw [z, h0]; simp
    · rw [hs i z]; simp [z])
  omega
theorem gM.step {len L : Nat → Nat} {i p : Nat} {a : Ad} (g : gM len L i (p + 1) a) : gM len L i p (stA i p (L (4 * i + p)) a) ∧ (L (4 * i + p) = 2 → 0 < a.1) := by
  obtain ⟨oc, os, par, up, dn⟩ := a
  obtain ⟨g1, g2, g3, g4, g5, g6, g7⟩ := g
  dsimp only at g1 g2 g3 g4 g5 g6 g7
  rw [ct_s] at g5 g6
  by_cases z : L (4 * i + p) = 2
  · have e : cq L i p = true := by unfold cq; simp [z]
    rw [e, if_pos rfl] at g5 g6
    refine ⟨?_, fun _ => by dsimp only; omega⟩
    unfold stA
    rw [if_pos z]
    dsimp only
    obtain ⟨t1, t2⟩ := g2 (oc - 1) (by omega)
    have ne : ∀ j, j < oc - 1 → os j ≠ os (oc - 1) := fun j hj => by
      have := g3 j (oc - 1) hj (by omega)
      omega
    refine ⟨by dsimp only; omega, fun j hj => ?_, fun j j' q1 q2 => ?_, fun k hk => ?_, by dsimp only; omega, ?_, fun i' hi' => ?_⟩
    · dsimp only at hj ⊢
      have q := g2 j (by omega)
      rw [un_n (ne j hj)]
      exact q
    · dsimp only at q2 ⊢
      exact g3 j j' q1 (by omega)
    · dsimp only
      by_cases y : k = os (oc - 1)
      · rw [y, un_s]; exact ⟨by omega, fun _ => by omega⟩
      · rw [un_n y]; exact g4 k hk
    · dsimp only
      have q := ct_add1 (q := fun k => par k == i + 1) (q' := fun k => un par (os (oc - 1)) (i + 1) k == i + 1) (n := i) (j := os (oc - 1)) t1 (by simp [t2]) (by simp [un_s]) (fun k hk => by simp [un_n hk])
      omega
    · dsimp only
      rw [← g7 i' hi']
      refine ct_congr (fun k hk => ?_)
      by_cases y : k = os (oc - 1)
      · rw [y, un_s, t2]
        simp
        omega
      · rw [un_n y]
  · have e : ¬ cq L i p = true := by unfold cq; simp [z]
    rw [if_neg e, Nat.add_zero] at g5 g6
    refine ⟨?_, fun q => absurd q z⟩
    unfold stA
    rw [if_neg z]
    by_cases y : L (4 * i + p) = 1
    · rw [if_pos y]; exact ⟨g1, g2, g3, g4, g5, g6, g7⟩
    · rw [if_neg y]; exact ⟨g1, g2, g3, g4, g5, g6, g7⟩
theorem gM.go {len L : Nat → Nat} {i : Nat} : ∀ p a, gM len L i p a → gM len L i 0 (pkA i L p a) := by
  intro p
  induction p with
  | zero => exact fun a g => g
  | succ p ih => exact fun a g => ih _ g.step.1
theorem gM.push {len L : Nat → Nat} {n : Nat} {a : Ad} (g : gM len L n 0 a) : gA len L (n + 1) (puA n a) := by
  obtain ⟨oc, os, par, up, dn⟩ := a
  obtain ⟨g1, g2, g3, g4, g5, g6, g7⟩ := g
  dsimp only at g1 g2 g3 g4 g5 g6 g7
  have pn : par n = 0 := by
    have q := g4 n (by omega)
    apply Classical.byContradiction
    intro z
    have := q.2 z
    omega
  have cs : ∀ i', ct (fun k => par k == i' + 1) (n + 1) = ct (fun k => par k == i' + 1) n := fun i' => by
    rw [ct_s, if_neg (by rw [pn]; simp), Nat.add_zero]
  refine ⟨by dsimp only [puA]; omega, fun j hj => ?_, fun j j' q1 q2 => ?_, fun k hk => ?_, fun i hi => ?_⟩
  · show un os oc n j < n + 1 ∧ par (un os oc n j) = 0
    have hj : j < oc + 1 := hj
    by_cases z : j = oc
    · rw [z, un_s]; exact ⟨by omega, pn⟩
    · rw [un_n z]
      have q := g2 j (by omega)
      exact ⟨by omega, q.2⟩
  · show un os oc n j < un os oc n j'
    have q2 : j' < oc + 1 := q2
    rw [un_n (show j ≠ oc by omega)]
    by_cases z : j' = oc
    · rw [z, un_s]; exact (g2 j (by omega)).1
    · rw [un_n z]; exact g3 j j' q1 (by omega)
  · exact g4 k (by omega)
  · show ct (fun k => par k == i + 1) (n + 1) = _
    rw [cs]
    by_cases z : i = n
    · rw [z]
      have e0 : ct (cq L n) 0 = 0 := rfl
      omega
    · exact g7 i (by omega)
theorem gA.zero (len L : Nat → Nat) : gA len L 0 (bld len L 0) := ⟨Nat.le_refl _, fun j hj => absurd hj (Nat.not_lt_zero j), fun j j' _ q => absurd q (Nat.not_lt_zero j'), fun k hk => absurd hk (Nat.not_lt_zero k), fun i hi => absurd hi (Nat.not_lt_zero i)⟩
theorem gA.next {len L : Nat → Nat} {n : Nat} (g : gA len L n (bld len L n)) (h : ct (cq L n) (len n) ≤ (bld len L n).1) : gA len L (n + 1) (bld len L (n + 1)) := by
  rw [bld_s]
  exact ((g.mid h).go _ _).push
theorem gA.congr {len L len' L' : Nat → Nat} {n : Nat} (h : ∀ i, i < n → len i = len' i ∧ ∀ p, p < len i → L (4 * i + p) = L' (4 * i + p)) (g : gA len L n (bld len L n)) : gA len' L' n (bld len' L' n) := by
  rw [← bld_congr n h]
  obtain ⟨g1, g2, g3, g4, g5⟩ := g
  refine ⟨g1, g2, g3, g4, fun i hi => ?_⟩
  rw [g5 i hi, ← (h i hi).1]
  refine ct_congr (fun p hp => ?_)
  unfold cq
  rw [(h i hi).2 p hp]
