-- sets of nodes that ask
def rmS (c w : Nat) : Nat := if c / 2 ^ w % 2 = 1 then c - 2 ^ w else c
theorem set_w : ∀ c : Fin 1024, ∀ r : Fin 10, (nI c.val) &&& (((1 : Int32) <<< ((nI r.val) &&& 31)) ^^^ (-1 : Int32)) = nI (rmS c.val r.val) := by decide +kernel
theorem rm_lt {c w : Nat} (h : c < 1024) : rmS c w < 1024 := by
  unfold rmS
  by_cases z : c / 2 ^ w % 2 = 1
  · rw [if_pos z]; exact Nat.lt_of_le_of_lt (Nat.sub_le _ _) h
  · rw [if_neg z]; exact h
theorem rm_in' : ∀ c : Fin 1024, ∀ w : Fin 10, ∀ v : Fin 10, inS (rmS c.val w.val) v.val = (inS c.val v.val && !(v.val == w.val)) := by decide +kernel
theorem rm_in {c w v : Nat} (hc : c < 1024) (hw : w < 10) (hv : v < 10) : inS (rmS c w) v = (inS c v && !(v == w)) := rm_in' ⟨c, hc⟩ ⟨w, hw⟩ ⟨v, hv⟩
theorem pc_z' : ∀ c : Fin 1024, ct (inS c.val) 10 = 0 → c.val = 0 := by decide +kernel
theorem pc_z {c : Nat} (hc : c < 1024) (h : ct (inS c) 10 = 0) : c = 0 := pc_z' ⟨c, hc⟩ h
theorem pc_0 : ct (inS 0) 10 = 0 := by decide
theorem pc_rm {c w : Nat} (hc : c < 1024) (hw : w < 10) (h : inS c w = true) : ct (inS (rmS c w)) 10 + 1 = ct (inS c) 10 := by
  rw [ct_congr (p := inS (rmS c w)) (q := fun i => inS c i && !(i == w)) (fun i hi => rm_in hc hw hi)]
  exact ct_del hw h
theorem one_sh' : ∀ n : Fin 11, ((1 : Int32) <<< ((nI n.val) &&& 31)) - (1 : Int32) = nI (2 ^ n.val - 1) := by decide +kernel
theorem inS_hi' : ∀ n : Fin 11, ∀ c : Fin 1024, c.val < 2 ^ n.val → ∀ v : Fin 10, inS c.val v.val = true → v.val < n.val := by decide +kernel
theorem inS_hi {n c v : Nat} (hn : n ≤ 10) (hc : c < 2 ^ n) (hv : v < 10) (h : inS c v = true) : v < n := by
  have : 2 ^ n ≤ 2 ^ 10 := Nat.pow_le_pow_right (by omega) hn
  exact inS_hi' ⟨n, by omega⟩ ⟨c, by omega⟩ hc ⟨v, hv⟩ h
