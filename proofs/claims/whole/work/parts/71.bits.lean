-- bits: the coin of a node in a round
theorem bit_u : ∀ c : Fin 256, ∀ r : Fin 8, (ce_ushr (nI c.val) (nI r.val)) &&& (1 : Int32) = nI (c.val / 2 ^ r.val % 2) := by decide +kernel
theorem bit_s : ∀ c : Fin 256, ∀ r : Fin 8, ((nI c.val) >>> ((nI r.val) &&& 31)) &&& (1 : Int32) = nI (c.val / 2 ^ r.val % 2) := by decide +kernel
