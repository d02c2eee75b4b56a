-- coins as numbers
theorem or_sh : ∀ n : Fin 8, ∀ c : Fin 128, ∀ d : Fin 2, c.val < 2 ^ n.val → (nI c.val) ||| ((nI d.val) <<< ((nI n.val) &&& 31)) = nI (c.val + d.val * 2 ^ n.val) := by decide +kernel
theorem bit_add : ∀ n : Fin 8, ∀ c : Fin 128, ∀ d : Fin 2, c.val < 2 ^ n.val → c.val + d.val * 2 ^ n.val < 2 ^ (n.val + 1) ∧ ∀ i : Fin 8, i.val ≤ n.val → (c.val + d.val * 2 ^ n.val) / 2 ^ i.val % 2 = if i.val = n.val then d.val else c.val / 2 ^ i.val % 2 := by decide +kernel
/-- the class's number, the first coin last -/
def cC (d : Nat → Nat) : Nat → Nat
  | 0 => 0
  | n + 1 => cC d n + d n * 2 ^ n
theorem cC_s (d : Nat → Nat) (n : Nat) : cC d (n + 1) = cC d n + d n * 2 ^ n := rfl
theorem cC_v {d : Nat → Nat} : ∀ n, n ≤ 8 → (∀ i, i < n → d i ≤ 1) → cC d n < 2 ^ n ∧ ∀ i, i < n → cC d n / 2 ^ i % 2 = d i := by
  intro n
  induction n with
  | zero => intro _ _; exact ⟨Nat.zero_lt_one, fun i hi => absurd hi (by omega)⟩
  | succ n ih =>
    intro hn hd
    obtain ⟨a, b⟩ := ih (by omega) (fun i hi => hd i (by omega))
    have p : 2 ^ n ≤ 2 ^ 7 := Nat.pow_le_pow_right (by omega) (by omega)
    have dn := hd n (by omega)
    have q := bit_add ⟨n, by omega⟩ ⟨cC d n, by omega⟩ ⟨d n, by omega⟩ a
    dsimp only at q
    rw [cC_s]
    refine ⟨q.1, fun i hi => ?_⟩
    have w := q.2 ⟨i, by omega⟩ (by show i ≤ n; omega)
    dsimp only at w
    rw [w]
    by_cases z : i = n
    · rw [if_pos z, z]
    · rw [if_neg z]; exact b i (by omega)
/-- the reference's, the first coin first -/
def wC (d : Nat → Nat) : Nat → Nat
  | 0 => 0
  | n + 1 => 2 * wC d n + d n
theorem wC_s (d : Nat → Nat) (n : Nat) : wC d (n + 1) = 2 * wC d n + d n := rfl
theorem wC_v {d : Nat → Nat} : ∀ n, (∀ i, i < n → d i ≤ 1) → wC d n < 2 ^ n ∧ ∀ i, i < n → wC d n / 2 ^ (n - 1 - i) % 2 = d i := by
  intro n
  induction n with
  | zero => intro _; exact ⟨Nat.zero_lt_one, fun i hi => absurd hi (by omega)⟩
  | succ n ih =>
    intro hd
    obtain ⟨a, b⟩ := ih (fun i hi => hd i (by omega))
    have dn := hd n (by omega)
    have pw : 2 ^ (n + 1) = 2 ^ n * 2 := Nat.pow_succ 2 n
    rw [wC_s]
    refine ⟨by omega, fun i hi => ?_⟩
    by_cases z : i = n
    · rw [z, show n + 1 - 1 - n = 0 by omega, Nat.pow_zero, Nat.div_one]
      omega
    · have e1 : n + 1 - 1 - i = (n - 1 - i) + 1 := by omega
      have p2 : 2 ^ ((n - 1 - i) + 1) = 2 * 2 ^ (n - 1 - i) := by rw [Nat.pow_succ, Nat.mul_comm]
      rw [e1, p2, ← Nat.div_div_eq_div_mul, show (2 * wC d n + d n) / 2 = wC d n by omega]
      exact b i (by omega)
/-- and they tell the same -/
theorem coins_same {d : Nat → Nat} {n : Nat} (hn : n ≤ 8) (hd : ∀ i, i < n → d i ≤ 1) : cC d n < 256 ∧ wC d n < 256 ∧ ∀ i, i < n → cC d n / 2 ^ i % 2 = wC d n / 2 ^ (n - 1 - i) % 2 := by
  have a := cC_v n hn hd
  have b := wC_v n hd
  have p : 2 ^ n ≤ 2 ^ 8 := Nat.pow_le_pow_right (by omega) hn
  exact ⟨by omega, by omega, fun i hi => by rw [a.2 i hi, b.2 i hi]⟩
