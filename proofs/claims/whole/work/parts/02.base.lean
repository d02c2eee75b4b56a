-- names, the world of both objects as one function of numbers, and the rows over it (written by wip/whole/gen/gen02.py)
def cn_0 : String := "CableElection$Acts"
def ft_0 : u_T := fun k => match k with
  | 0 => ("CableElection$Acts", "made", "I", false)
  | 1 => ("CableElection$Acts", "kind", "[I", true)
  | 2 => ("CableElection$Acts", "subject", "[I", true)
  | 3 => ("CableElection$Acts", "far", "[I", true)
  | _ => ("CableElection$Acts", "length", "[I", true)
def fy_0 : Nat → FieldType := fun k => match k with
  | 0 => .int
  | 1 => .array .int
  | 2 => .array .int
  | 3 => .array .int
  | _ => .array .int
theorem fn_0 : ∀ a, a < 5 → ∀ b, b < 5 → a ≠ b → (ft_0 a).2.1 ≠ (ft_0 b).2.1 := by decide +kernel
theorem fo_0 : ∀ k, k < 5 → parseFieldDescriptor (ft_0 k).2.2.1 = some (fy_0 k) := by decide +kernel
def cn_1 : String := "CableElection$Asking"
def ft_1 : u_T := fun k => match k with
  | 0 => ("CableElection$Asking", "winner", "I", false)
  | 1 => ("CableElection$Asking", "grantedAt", "I", false)
  | 2 => ("CableElection$Asking", "first", "[I", true)
  | _ => ("CableElection$Asking", "firstAt", "[I", true)
def fy_1 : Nat → FieldType := fun k => match k with
  | 0 => .int
  | 1 => .int
  | 2 => .array .int
  | _ => .array .int
theorem fn_1 : ∀ a, a < 4 → ∀ b, b < 4 → a ≠ b → (ft_1 a).2.1 ≠ (ft_1 b).2.1 := by decide +kernel
theorem fo_1 : ∀ k, k < 4 → parseFieldDescriptor (ft_1 k).2.2.1 = some (fy_1 k) := by decide +kernel
def cn_2 : String := "CableElection$Buses"
def ft_2 : u_T := fun k => match k with
  | 0 => ("CableElection$Buses", "total", "I", false)
  | 1 => ("CableElection$Buses", "looped", "I", false)
  | 2 => ("CableElection$Buses", "busOf", "[I", true)
  | 3 => ("CableElection$Buses", "nodeCount", "[I", true)
  | _ => ("CableElection$Buses", "cableCount", "[I", true)
def fy_2 : Nat → FieldType := fun k => match k with
  | 0 => .int
  | 1 => .int
  | 2 => .array .int
  | 3 => .array .int
  | _ => .array .int
theorem fn_2 : ∀ a, a < 5 → ∀ b, b < 5 → a ≠ b → (ft_2 a).2.1 ≠ (ft_2 b).2.1 := by decide +kernel
theorem fo_2 : ∀ k, k < 5 → parseFieldDescriptor (ft_2 k).2.2.1 = some (fy_2 k) := by decide +kernel
def cn_3 : String := "CableElection$Election"
def ft_3 : u_T := fun k => match k with
  | 0 => ("CableElection$Election", "calledAt", "[I", true)
  | 1 => ("CableElection$Election", "rootAt", "[I", true)
  | 2 => ("CableElection$Election", "bitsTaken", "[I", true)
  | 3 => ("CableElection$Election", "parentEnd", "[I", true)
  | 4 => ("CableElection$Election", "dueAt", "[I", true)
  | _ => ("CableElection$Election", "heardAt", "[I", true)
def fy_3 : Nat → FieldType := fun k => match k with
  | 0 => .array .int
  | 1 => .array .int
  | 2 => .array .int
  | 3 => .array .int
  | 4 => .array .int
  | _ => .array .int
theorem fn_3 : ∀ a, a < 6 → ∀ b, b < 6 → a ≠ b → (ft_3 a).2.1 ≠ (ft_3 b).2.1 := by decide +kernel
theorem fo_3 : ∀ k, k < 6 → parseFieldDescriptor (ft_3 k).2.2.1 = some (fy_3 k) := by decide +kernel
def cn_4 : String := "CableElection$Naming"
def ft_4 : u_T := fun k => match k with
  | 0 => ("CableElection$Naming", "idOf", "[I", true)
  | _ => ("CableElection$Naming", "nodeById", "[I", true)
def fy_4 : Nat → FieldType := fun k => match k with
  | 0 => .array .int
  | _ => .array .int
theorem fn_4 : ∀ a, a < 2 → ∀ b, b < 2 → a ≠ b → (ft_4 a).2.1 ≠ (ft_4 b).2.1 := by decide +kernel
theorem fo_4 : ∀ k, k < 2 → parseFieldDescriptor (ft_4 k).2.2.1 = some (fy_4 k) := by decide +kernel
def cn_5 : String := "CableElection$Net"
def ft_5 : u_T := fun k => match k with
  | 0 => ("CableElection$Net", "lines", "I", false)
  | 1 => ("CableElection$Net", "wait", "I", false)
  | 2 => ("CableElection$Net", "delay", "I", false)
  | 3 => ("CableElection$Net", "nodes", "I", false)
  | 4 => ("CableElection$Net", "cables", "I", false)
  | 5 => ("CableElection$Net", "ports", "[I", true)
  | 6 => ("CableElection$Net", "forced", "[Z", true)
  | 7 => ("CableElection$Net", "coins", "[I", true)
  | 8 => ("CableElection$Net", "coinCount", "[I", true)
  | 9 => ("CableElection$Net", "far", "[I", true)
  | _ => ("CableElection$Net", "length", "[I", true)
def fy_5 : Nat → FieldType := fun k => match k with
  | 0 => .int
  | 1 => .int
  | 2 => .int
  | 3 => .int
  | 4 => .int
  | 5 => .array .int
  | 6 => .array .boolean
  | 7 => .array .int
  | 8 => .array .int
  | 9 => .array .int
  | _ => .array .int
theorem fn_5 : ∀ a, a < 11 → ∀ b, b < 11 → a ≠ b → (ft_5 a).2.1 ≠ (ft_5 b).2.1 := by decide +kernel
theorem fo_5 : ∀ k, k < 11 → parseFieldDescriptor (ft_5 k).2.2.1 = some (fy_5 k) := by decide +kernel
def cn_6 : String := "CableElection$Reading"
def ft_6 : u_T := fun k => match k with
  | 0 => ("CableElection$Reading", "tape", "LCableElection$Tape;", true)
  | 1 => ("CableElection$Reading", "kind", "I", false)
  | 2 => ("CableElection$Reading", "start", "I", false)
  | 3 => ("CableElection$Reading", "stop", "I", false)
  | 4 => ("CableElection$Reading", "faultKind", "I", false)
  | _ => ("CableElection$Reading", "faultPlace", "I", false)
def fy_6 : Nat → FieldType := fun k => match k with
  | 0 => .object "CableElection$Tape"
  | 1 => .int
  | 2 => .int
  | 3 => .int
  | 4 => .int
  | _ => .int
theorem fn_6 : ∀ a, a < 6 → ∀ b, b < 6 → a ≠ b → (ft_6 a).2.1 ≠ (ft_6 b).2.1 := by decide +kernel
theorem fo_6 : ∀ k, k < 6 → parseFieldDescriptor (ft_6 k).2.2.1 = some (fy_6 k) := by decide +kernel
def cn_7 : String := "CableElection$Tape"
def ft_7 : u_T := fun k => match k with
  | 0 => ("CableElection$Tape", "bytes", "[B", true)
  | _ => ("CableElection$Tape", "used", "I", false)
def fy_7 : Nat → FieldType := fun k => match k with
  | 0 => .array .byte
  | _ => .int
theorem fn_7 : ∀ a, a < 2 → ∀ b, b < 2 → a ≠ b → (ft_7 a).2.1 ≠ (ft_7 b).2.1 := by decide +kernel
theorem fo_7 : ∀ k, k < 2 → parseFieldDescriptor (ft_7 k).2.2.1 = some (fy_7 k) := by decide +kernel
def cn_8 : String := "CableElection$TextReader"
def ft_8 : u_T := fun k => match k with
  | 0 => ("CableElection$TextReader", "nameStart", "[I", true)
  | _ => ("CableElection$TextReader", "nameLength", "[I", true)
def fy_8 : Nat → FieldType := fun k => match k with
  | 0 => .array .int
  | _ => .array .int
theorem fn_8 : ∀ a, a < 2 → ∀ b, b < 2 → a ≠ b → (ft_8 a).2.1 ≠ (ft_8 b).2.1 := by decide +kernel
theorem fo_8 : ∀ k, k < 2 → parseFieldDescriptor (ft_8 k).2.2.1 = some (fy_8 k) := by decide +kernel
def cn_9 : String := "CableElection$Told"
def ft_9 : u_T := fun k => match k with
  | 0 => ("CableElection$Told", "total", "I", false)
  | 1 => ("CableElection$Told", "parentOf", "[I", true)
  | 2 => ("CableElection$Told", "portUp", "[I", true)
  | 3 => ("CableElection$Told", "portDown", "[I", true)
  | 4 => ("CableElection$Told", "letterCount", "[I", true)
  | 5 => ("CableElection$Told", "letters", "[I", true)
  | 6 => ("CableElection$Told", "orphans", "[I", true)
  | 7 => ("CableElection$Told", "orphanCount", "I", false)
  | _ => ("CableElection$Told", "hasRoot", "Z", false)
def fy_9 : Nat → FieldType := fun k => match k with
  | 0 => .int
  | 1 => .array .int
  | 2 => .array .int
  | 3 => .array .int
  | 4 => .array .int
  | 5 => .array .int
  | 6 => .array .int
  | 7 => .int
  | _ => .boolean
theorem fn_9 : ∀ a, a < 9 → ∀ b, b < 9 → a ≠ b → (ft_9 a).2.1 ≠ (ft_9 b).2.1 := by decide +kernel
theorem fo_9 : ∀ k, k < 9 → parseFieldDescriptor (ft_9 k).2.2.1 = some (fy_9 k) := by decide +kernel
def cn_10 : String := "CableElection$Walk"
def ft_10 : u_T := fun k => match k with
  | 0 => ("CableElection$Walk", "reached", "I", false)
  | 1 => ("CableElection$Walk", "order", "[I", true)
  | 2 => ("CableElection$Walk", "delayTo", "[I", true)
  | _ => ("CableElection$Walk", "cablesTo", "[I", true)
def fy_10 : Nat → FieldType := fun k => match k with
  | 0 => .int
  | 1 => .array .int
  | 2 => .array .int
  | _ => .array .int
theorem fn_10 : ∀ a, a < 4 → ∀ b, b < 4 → a ≠ b → (ft_10 a).2.1 ≠ (ft_10 b).2.1 := by decide +kernel
theorem fo_10 : ∀ k, k < 4 → parseFieldDescriptor (ft_10 k).2.2.1 = some (fy_10 k) := by decide +kernel
def cn_11 : String := "CableElection"
def ft_11 : u_T := fun k => match k with
  | 0 => ("CableElection", "reading", "LCableElection$Reading;", true)
  | 1 => ("CableElection", "textReader", "LCableElection$TextReader;", true)
  | 2 => ("CableElection", "wiring", "LCableElection$Net;", false)
  | 3 => ("CableElection", "draftWiring", "LCableElection$Net;", false)
  | 4 => ("CableElection", "told", "LCableElection$Told;", false)
  | 5 => ("CableElection", "draftTold", "LCableElection$Told;", false)
  | 6 => ("CableElection", "acts", "LCableElection$Acts;", true)
  | 7 => ("CableElection", "walk", "LCableElection$Walk;", true)
  | 8 => ("CableElection", "buses", "LCableElection$Buses;", true)
  | 9 => ("CableElection", "election", "LCableElection$Election;", true)
  | 10 => ("CableElection", "trial", "LCableElection$Election;", true)
  | 11 => ("CableElection", "naming", "LCableElection$Naming;", true)
  | _ => ("CableElection", "asking", "LCableElection$Asking;", true)
def fy_11 : Nat → FieldType := fun k => match k with
  | 0 => .object "CableElection$Reading"
  | 1 => .object "CableElection$TextReader"
  | 2 => .object "CableElection$Net"
  | 3 => .object "CableElection$Net"
  | 4 => .object "CableElection$Told"
  | 5 => .object "CableElection$Told"
  | 6 => .object "CableElection$Acts"
  | 7 => .object "CableElection$Walk"
  | 8 => .object "CableElection$Buses"
  | 9 => .object "CableElection$Election"
  | 10 => .object "CableElection$Election"
  | 11 => .object "CableElection$Naming"
  | _ => .object "CableElection$Asking"
theorem fn_11 : ∀ a, a < 13 → ∀ b, b < 13 → a ≠ b → (ft_11 a).2.1 ≠ (ft_11 b).2.1 := by decide +kernel
theorem fo_11 : ∀ k, k < 13 → parseFieldDescriptor (ft_11 k).2.2.1 = some (fy_11 k) := by decide +kernel
def cn_12 : String := "CableElectionModel"
def ft_12 : u_T := fun k => match k with
  | 0 => ("CableElectionModel", "mem", "[I", true)
  | 1 => ("CableElectionModel", "was", "[I", true)
  | 2 => ("CableElectionModel", "past", "[I", true)
  | 3 => ("CableElectionModel", "tape", "[I", true)
  | 4 => ("CableElectionModel", "taped", "I", false)
  | 5 => ("CableElectionModel", "faultKind", "I", false)
  | 6 => ("CableElectionModel", "faultPlace", "I", false)
  | 7 => ("CableElectionModel", "at", "I", false)
  | 8 => ("CableElectionModel", "begin", "I", false)
  | 9 => ("CableElectionModel", "token", "I", false)
  | 10 => ("CableElectionModel", "value", "I", false)
  | 11 => ("CableElectionModel", "bad", "Z", false)
  | 12 => ("CableElectionModel", "cables", "I", false)
  | 13 => ("CableElectionModel", "nameAt", "[I", true)
  | 14 => ("CableElectionModel", "nameLong", "[I", true)
  | 15 => ("CableElectionModel", "bus", "[I", true)
  | 16 => ("CableElectionModel", "comes", "[I", true)
  | 17 => ("CableElectionModel", "callAt", "[I", true)
  | 18 => ("CableElectionModel", "callBy", "[I", true)
  | 19 => ("CableElectionModel", "ableAt", "[I", true)
  | 20 => ("CableElectionModel", "rootAt", "[I", true)
  | 21 => ("CableElectionModel", "tookOf", "[I", true)
  | 22 => ("CableElectionModel", "parentBy", "[I", true)
  | 23 => ("CableElectionModel", "idOf", "[I", true)
  | 24 => ("CableElectionModel", "ids", "I", false)
  | 25 => ("CableElectionModel", "wayOf", "[I", true)
  | 26 => ("CableElectionModel", "hopsOf", "[I", true)
  | 27 => ("CableElectionModel", "toldLong", "[I", true)
  | 28 => ("CableElectionModel", "toldLetter", "[I", true)
  | 29 => ("CableElectionModel", "told", "I", false)
  | 30 => ("CableElectionModel", "readLong", "[I", true)
  | 31 => ("CableElectionModel", "readLetter", "[I", true)
  | 32 => ("CableElectionModel", "read", "I", false)
  | 33 => ("CableElectionModel", "builtParent", "[I", true)
  | 34 => ("CableElectionModel", "builtPort", "[I", true)
  | 35 => ("CableElectionModel", "builtThere", "[I", true)
  | 36 => ("CableElectionModel", "pile", "[I", true)
  | 37 => ("CableElectionModel", "piled", "I", false)
  | 38 => ("CableElectionModel", "isWhole", "Z", false)
  | 39 => ("CableElectionModel", "firstOf", "[I", true)
  | 40 => ("CableElectionModel", "firstAt", "[I", true)
  | 41 => ("CableElectionModel", "winner", "I", false)
  | _ => ("CableElectionModel", "grantAt", "I", false)
def fy_12 : Nat → FieldType := fun k => match k with
  | 0 => .array .int
  | 1 => .array .int
  | 2 => .array .int
  | 3 => .array .int
  | 4 => .int
  | 5 => .int
  | 6 => .int
  | 7 => .int
  | 8 => .int
  | 9 => .int
  | 10 => .int
  | 11 => .boolean
  | 12 => .int
  | 13 => .array .int
  | 14 => .array .int
  | 15 => .array .int
  | 16 => .array .int
  | 17 => .array .int
  | 18 => .array .int
  | 19 => .array .int
  | 20 => .array .int
  | 21 => .array .int
  | 22 => .array .int
  | 23 => .array .int
  | 24 => .int
  | 25 => .array .int
  | 26 => .array .int
  | 27 => .array .int
  | 28 => .array .int
  | 29 => .int
  | 30 => .array .int
  | 31 => .array .int
  | 32 => .int
  | 33 => .array .int
  | 34 => .array .int
  | 35 => .array .int
  | 36 => .array .int
  | 37 => .int
  | 38 => .boolean
  | 39 => .array .int
  | 40 => .array .int
  | 41 => .int
  | _ => .int
theorem fn_12 : ∀ a, a < 43 → ∀ b, b < 43 → a ≠ b → (ft_12 a).2.1 ≠ (ft_12 b).2.1 := by decide +kernel
theorem fo_12 : ∀ k, k < 43 → parseFieldDescriptor (ft_12 k).2.2.1 = some (fy_12 k) := by decide +kernel
def ce_cm : List Cond := lw_tbl.filter goodWord
theorem ce_cm_of {w : Cond} (h : w ∈ lw_tbl) (g : goodWord w = true) : w ∈ ce_cm := List.mem_filter.mpr ⟨h, g⟩
abbrev ce_cl : List vw_C := [(cn_0, ft_0, 5), (cn_1, ft_1, 4), (cn_2, ft_2, 5), (cn_3, ft_3, 6), (cn_4, ft_4, 2), (cn_5, ft_5, 11), (cn_6, ft_6, 6), (cn_7, ft_7, 2), (cn_8, ft_8, 2), (cn_9, ft_9, 9), (cn_10, ft_10, 4), (cn_11, ft_11, 13), (cn_12, ft_12, 43)]
theorem fw_0 : ∀ w ∈ u_ws cn_0 ft_0 5, w ∈ ce_cm := by decide +kernel
theorem fw_1 : ∀ w ∈ u_ws cn_1 ft_1 4, w ∈ ce_cm := by decide +kernel
theorem fw_2 : ∀ w ∈ u_ws cn_2 ft_2 5, w ∈ ce_cm := by decide +kernel
theorem fw_3 : ∀ w ∈ u_ws cn_3 ft_3 6, w ∈ ce_cm := by decide +kernel
theorem fw_4 : ∀ w ∈ u_ws cn_4 ft_4 2, w ∈ ce_cm := by decide +kernel
theorem fw_5 : ∀ w ∈ u_ws cn_5 ft_5 11, w ∈ ce_cm := by decide +kernel
theorem fw_6 : ∀ w ∈ u_ws cn_6 ft_6 6, w ∈ ce_cm := by decide +kernel
theorem fw_7 : ∀ w ∈ u_ws cn_7 ft_7 2, w ∈ ce_cm := by decide +kernel
theorem fw_8 : ∀ w ∈ u_ws cn_8 ft_8 2, w ∈ ce_cm := by decide +kernel
theorem fw_9 : ∀ w ∈ u_ws cn_9 ft_9 9, w ∈ ce_cm := by decide +kernel
theorem fw_10 : ∀ w ∈ u_ws cn_10 ft_10 4, w ∈ ce_cm := by decide +kernel
theorem fw_11 : ∀ w ∈ u_ws cn_11 ft_11 13, w ∈ ce_cm := by decide +kernel
theorem fw_12 : ∀ w ∈ u_ws cn_12 ft_12 43, w ∈ ce_cm := by decide +kernel
abbrev ce_Sh : Type := (Nat × Nat) ⊕ (Nat × List (Option (Option Nat)))
def ce_lay : Nat → ce_Sh := fun k => match k with
  | 0 => .inr (11, [some (some 1), some (some 4), some none, some none, some none, some none, some (some 35), some (some 40), some (some 44), some (some 48), some (some 55), some (some 62), some (some 65)])
  | 1 => .inr (6, [some (some 2), none, none, none, none, none])
  | 2 => .inr (7, [some (some 3), none])
  | 3 => .inl (1, 700)
  | 4 => .inr (8, [some (some 5), some (some 6)])
  | 5 => .inl (0, 10)
  | 6 => .inl (0, 10)
  | 7 => .inr (5, [none, none, none, none, none, some (some 8), some (some 9), some (some 10), some (some 11), some (some 12), some (some 13)])
  | 8 => .inl (0, 10)
  | 9 => .inl (2, 10)
  | 10 => .inl (0, 10)
  | 11 => .inl (0, 10)
  | 12 => .inl (0, 40)
  | 13 => .inl (0, 40)
  | 14 => .inr (5, [none, none, none, none, none, some (some 15), some (some 16), some (some 17), some (some 18), some (some 19), some (some 20)])
  | 15 => .inl (0, 10)
  | 16 => .inl (2, 10)
  | 17 => .inl (0, 10)
  | 18 => .inl (0, 10)
  | 19 => .inl (0, 40)
  | 20 => .inl (0, 40)
  | 21 => .inr (9, [none, some (some 22), some (some 23), some (some 24), some (some 25), some (some 26), some (some 27), none, none])
  | 22 => .inl (0, 12)
  | 23 => .inl (0, 12)
  | 24 => .inl (0, 12)
  | 25 => .inl (0, 12)
  | 26 => .inl (0, 48)
  | 27 => .inl (0, 12)
  | 28 => .inr (9, [none, some (some 29), some (some 30), some (some 31), some (some 32), some (some 33), some (some 34), none, none])
  | 29 => .inl (0, 12)
  | 30 => .inl (0, 12)
  | 31 => .inl (0, 12)
  | 32 => .inl (0, 12)
  | 33 => .inl (0, 48)
  | 34 => .inl (0, 12)
  | 35 => .inr (0, [none, some (some 36), some (some 37), some (some 38), some (some 39)])
  | 36 => .inl (0, 20)
  | 37 => .inl (0, 20)
  | 38 => .inl (0, 20)
  | 39 => .inl (0, 20)
  | 40 => .inr (10, [none, some (some 41), some (some 42), some (some 43)])
  | 41 => .inl (0, 10)
  | 42 => .inl (0, 10)
  | 43 => .inl (0, 10)
  | 44 => .inr (2, [none, none, some (some 45), some (some 46), some (some 47)])
  | 45 => .inl (0, 10)
  | 46 => .inl (0, 10)
  | 47 => .inl (0, 10)
  | 48 => .inr (3, [some (some 49), some (some 50), some (some 51), some (some 52), some (some 53), some (some 54)])
  | 49 => .inl (0, 10)
  | 50 => .inl (0, 10)
  | 51 => .inl (0, 10)
  | 52 => .inl (0, 10)
  | 53 => .inl (0, 10)
  | 54 => .inl (0, 40)
  | 55 => .inr (3, [some (some 56), some (some 57), some (some 58), some (some 59), some (some 60), some (some 61)])
  | 56 => .inl (0, 10)
  | 57 => .inl (0, 10)
  | 58 => .inl (0, 10)
  | 59 => .inl (0, 10)
  | 60 => .inl (0, 10)
  | 61 => .inl (0, 40)
  | 62 => .inr (4, [some (some 63), some (some 64)])
  | 63 => .inl (0, 10)
  | 64 => .inl (0, 100)
  | 65 => .inr (1, [none, none, some (some 66), some (some 67)])
  | 66 => .inl (0, 10)
  | 67 => .inl (0, 10)
  | 68 => .inr (12, [some (some 69), some (some 70), some (some 71), some (some 72), none, none, none, none, none, none, none, none, none, some (some 73), some (some 74), some (some 75), some (some 76), some (some 77), some (some 78), some (some 79), some (some 80), some (some 81), some (some 82), some (some 83), none, some (some 84), some (some 85), some (some 86), some (some 87), none, some (some 88), some (some 89), none, some (some 90), some (some 91), some (some 92), some (some 93), none, none, some (some 94), some (some 95), none, none])
  | 69 => .inl (0, 125)
  | 70 => .inl (0, 125)
  | 71 => .inl (0, 2500)
  | 72 => .inl (0, 700)
  | 73 => .inl (0, 10)
  | 74 => .inl (0, 10)
  | 75 => .inl (0, 10)
  | 76 => .inl (0, 40)
  | 77 => .inl (0, 10)
  | 78 => .inl (0, 10)
  | 79 => .inl (0, 10)
  | 80 => .inl (0, 10)
  | 81 => .inl (0, 10)
  | 82 => .inl (0, 10)
  | 83 => .inl (0, 10)
  | 84 => .inl (0, 10)
  | 85 => .inl (0, 10)
  | 86 => .inl (0, 12)
  | 87 => .inl (0, 48)
  | 88 => .inl (0, 13)
  | 89 => .inl (0, 52)
  | 90 => .inl (0, 12)
  | 91 => .inl (0, 12)
  | 92 => .inl (0, 12)
  | 93 => .inl (0, 13)
  | 94 => .inl (0, 10)
  | 95 => .inl (0, 10)
  | _ => .inl (0, 0)
abbrev Hp : Type := Nat → Nat → Int32
def hp_up (h : Hp) (k j : Nat) (v : Int32) : Hp := fun a => if a = k then upd (h k) j v else h a
def ce_slot (ad : Nat → Nat) (f : Nat → Int32) (j : Nat) (s : Option (Option Nat)) : Value := match s with
  | none => .int (f j)
  | some none => .ref (ad (f j).toNatClampNeg)
  | some (some i) => .ref (ad i)
def ce_slots (ad : Nat → Nat) (f : Nat → Int32) : Nat → List (Option (Option Nat)) → List Value
  | _, [] => []
  | j, s :: r => ce_slot ad f j s :: ce_slots ad f (j + 1) r
def ce_cell (ad : Nat → Nat) (cA : Nat → ClassId) (f : Nat → Int32) (sh : ce_Sh) : va_E := match sh with
  | .inl (t, n) => .inl (cA t, n, .inl f)
  | .inr (ci, sl) => .inr (ci, ce_slots ad f 0 sl)
def ce_wl (ad : Nat → Nat) (cA : Nat → ClassId) (h : Hp) : va_W := (List.range 96).map (fun k => (ad k, ce_cell ad cA (h k) (ce_lay k)))
abbrev ce_tys (cA : Nat → ClassId) : List (ClassId × FieldType) := [(cA 0, .int), (cA 1, .byte), (cA 2, .boolean)]
theorem ce_slots_get (ad : Nat → Nat) (f : Nat → Int32) : ∀ (sl : List (Option (Option Nat))) (j i : Nat), (ce_slots ad f j sl)[i]? = (sl[i]?).map (ce_slot ad f (j + i))
  | [], j, i => by simp [ce_slots]
  | s :: r, j, 0 => by simp [ce_slots]
  | s :: r, j, i + 1 => by
    simp only [ce_slots, List.getElem?_cons_succ]
    rw [ce_slots_get ad f r (j + 1) i]
    rw [show j + 1 + i = j + (i + 1) by omega]
theorem ce_slots_len (ad : Nat → Nat) (f : Nat → Int32) : ∀ (sl : List (Option (Option Nat))) (j : Nat), (ce_slots ad f j sl).length = sl.length
  | [], j => rfl
  | s :: r, j => by simp [ce_slots, ce_slots_len ad f r (j + 1)]
theorem ce_slots_set (ad : Nat → Nat) (f : Nat → Int32) (sl : List (Option (Option Nat))) (i : Nat) (x : Int32) (s : Option (Option Nat)) (hs : sl[i]? = some s) : (ce_slots ad f 0 sl).set i (ce_slot ad (upd f i x) i s) = ce_slots ad (upd f i x) 0 sl := by
  apply List.ext_getElem?
  intro j
  rw [ce_slots_get]
  by_cases hj : j = i
  · subst hj
    rw [List.getElem?_set_self (by rw [ce_slots_len]; exact (List.getElem?_eq_some_iff.mp hs).1)]
    simp [hs]
  · rw [List.getElem?_set_ne (fun h => hj h.symm), ce_slots_get]
    congr 1
    funext q
    unfold ce_slot
    simp [upd, hj]
theorem ce_wl_get (ad : Nat → Nat) (cA : Nat → ClassId) (h : Hp) (X : va_W) {k : Nat} (hk : k < 96) : (ce_wl ad cA h ++ X)[k]? = some (ad k, ce_cell ad cA (h k) (ce_lay k)) := by
  rw [List.getElem?_append_left (by simp [ce_wl]; exact hk)]
  simp [ce_wl, hk]
theorem ce_wl_set (ad : Nat → Nat) (cA : Nat → ClassId) (h : Hp) (X : va_W) {k : Nat} (hk : k < 96) (j : Nat) (v : Int32) : (ce_wl ad cA h ++ X).set k (ad k, ce_cell ad cA (upd (h k) j v) (ce_lay k)) = ce_wl ad cA (hp_up h k j v) ++ X := by
  apply List.ext_getElem?
  intro i
  by_cases hi : i = k
  · subst hi
    rw [List.getElem?_set_self (by simp [ce_wl]; omega), ce_wl_get ad cA _ X hk]
    simp [hp_up]
  · rw [List.getElem?_set_ne (fun q => hi q.symm)]
    by_cases h96 : i < 96
    · rw [ce_wl_get ad cA _ X h96, ce_wl_get ad cA _ X h96]
      simp [hp_up, hi]
    · rw [List.getElem?_append_right (by simp [ce_wl]; omega), List.getElem?_append_right (by simp [ce_wl]; omega)]
      simp [ce_wl]
/-- the addresses are apart and new -/
def ce_Ad (ad : Nat → Nat) (B0 : Nat) : Prop := (∀ i j, i < 96 → j < 96 → ad i = ad j → i = j) ∧ ∀ i, i < 96 → B0 ≤ ad i
/-- the frame's fixed facts -/
def ce_Cx (p : Program) (s : State) (m : MethodId) (args : Array Value) (c : Code) (meth : Method) (cc : ByteArray) (nL : Nat) (ret : Option FieldType) (own : String) (D : va_G) (ad : Nat → Nat) (cA : Nat → ClassId) (B0 : Nat) (St : State → Prop) : Prop :=
  p.tables.exec = Jvm.exec ∧ c.code = cc ∧ c.maxLocals = nL ∧ s.vm.findClass own = some m.cls ∧ (∀ w ∈ ce_cm, w.before args s = true) ∧ va_K D ce_cl (ce_tys cA) s ∧ ce_Ad ad B0 ∧ B0 ≤ s.heap.size ∧ meth.sig.returnType = ret ∧ meth.locks = false ∧ St s
/-- the heap now: it holds the world, and nothing old has changed -/
def ce_H (D : va_G) (ad : Nat → Nat) (cA : Nat → ClassId) (B0 : Nat) (X : va_W) (s : State) (h : Hp) (H : Heap) (locs : List Loc) : Prop :=
  va_P D ce_cl (ce_wl ad cA h ++ X) H ∧ va_D (fun q => B0 ≤ q) (ce_wl ad cA h ++ X) ∧ va_S (fun q => B0 ≤ q) s.heap H locs
section CE
variable {p : Program} {l : Launch} {e : Env} {R : Room} {s : State} {m : MethodId} {args : Array Value} {below : List Frame} {meth : Method} {c : Code} {H : Heap} {locs : List Loc} {cells slots : Nat} {Q : State → Prop}
variable {cc : ByteArray} {pc nL : Nat} {ret : Option FieldType} {ls : Array Slot} {rest : List Value} {own : String} {D : va_G} {ad : Nat → Nat} {cA : Nat → ClassId} {B0 : Nat} {X : va_W} {h : Hp} {St : State → Prop}
theorem ce_get (C : ce_Cx p s m args c meth cc nL ret own D ad cA B0 St) (hH : ce_H D ad cA B0 X s h H locs) {k ci j idx N : Nat} {cn : String} {ft : u_T} {sl : List (Option (Option Nat))} {sj : Option (Option Nat)} (hk : k < 96) (hl : ce_lay k = .inr (ci, sl)) (hc : ce_cl[ci]? = some (cn, ft, N)) (hin : ∀ w ∈ u_ws cn ft N, w ∈ ce_cm) (hj : j < N) (hlink : Cond.fieldLink own idx (ft j).1 (ft j).2.1 (ft j).2.2.1 ∈ ce_cm) (hs : sl[j]? = some sj) (hdg : decode cc pc = .ok (.getfield idx, 3))
    (kk : W p l e R s m args below meth c H locs cells slots Q (F0 m (pc + 3) ls (ce_slot ad (h k) j sj :: rest))) : W p l e R s m args below meth c H locs cells slots Q (F0 m pc ls (.ref (ad k) :: rest)) := by
  obtain ⟨hx, hb, hml, hown, hts, hK, hA, hB, -⟩ := C
  have he := ce_wl_get ad cA h X hk
  rw [hl] at he
  refine va_get (D := D) hx hb hts hin hown hK hH.1 k he hc j hj (hts _ hlink) (fun _ z => z) (v := ce_slot ad (h k) j sj) ?_ hdg kk
  rw [ce_slots_get, hs]
  simp
theorem ce_put (C : ce_Cx p s m args c meth cc nL ret own D ad cA B0 St) (hH : ce_H D ad cA B0 X s h H locs) {k ci j idx N : Nat} {cn : String} {ft : u_T} {fy : Nat → FieldType} {sl : List (Option (Option Nat))} {sj : Option (Option Nat)} (x : Int32) (hk : k < 96) (hl : ce_lay k = .inr (ci, sl)) (hc : ce_cl[ci]? = some (cn, ft, N)) (hin : ∀ w ∈ u_ws cn ft N, w ∈ ce_cm) (hty : ∀ k, k < N → parseFieldDescriptor (ft k).2.2.1 = some (fy k)) (hnm : ∀ a, a < N → ∀ b, b < N → a ≠ b → (ft a).2.1 ≠ (ft b).2.1) (hj : j < N) (hlink : Cond.fieldLink own idx (ft j).1 (ft j).2.1 (ft j).2.2.1 ∈ ce_cm) (hs : sl[j]? = some sj) (hfin : (ft j).2.2.2 = false) {v : Value} (hv : ce_slot ad (upd (h k) j x) j sj = v) (hn : narrow (fy j) v = v) (hfit : fits (fy j) v = true) (hdg : decode cc pc = .ok (.putfield idx, 3))
    (kk : ∀ (H1 : Heap) (locs1 : List Loc), ce_H D ad cA B0 X s (hp_up h k j x) H1 locs1 → W p l e R s m args below meth c H1 locs1 cells slots Q (F0 m (pc + 3) ls rest)) : W p l e R s m args below meth c H locs cells slots Q (F0 m pc ls (v :: .ref (ad k) :: rest)) := by
  obtain ⟨hx, hb, hml, hown, hts, hK, hA, hB, -⟩ := C
  have he := ce_wl_get ad cA h X hk
  rw [hl] at he
  have e1 : (ce_wl ad cA h ++ X).set k (ad k, .inr (ci, (ce_slots ad (h k) 0 sl).set j v)) = ce_wl ad cA (hp_up h k j x) ++ X := by
    rw [← ce_wl_set ad cA h X hk j x, hl]
    show _ = (ce_wl ad cA h ++ X).set k (ad k, .inr (ci, ce_slots ad (upd (h k) j x) 0 sl))
    rw [← ce_slots_set ad (h k) sl j x sj hs, hv]
  refine va_put (D := D) hx hb hts hin fy hty hnm hown hK hH.1 hH.2.1 hH.2.2 k he hc j hj (hts _ hlink) (fun _ z => z) hfin (hty j hj) hn hfit ?_ hdg (fun H1 locs1 q1 q2 q3 => ?_)
  · rw [ce_slots_len]; exact (List.getElem?_eq_some_iff.mp hs).1
  · rw [e1] at q1 q2
    exact kk H1 locs1 ⟨q1, q2, q3⟩
theorem ce_iald (C : ce_Cx p s m args c meth cc nL ret own D ad cA B0 St) (hH : ce_H D ad cA B0 X s h H locs) {k n : Nat} (hk : k < 96) (hl : ce_lay k = .inl (0, n)) {i : Int32} (hin : vp_in i n) (hdg : decode cc pc = .ok (.iaload, 1))
    (kk : W p l e R s m args below meth c H locs cells slots Q (F0 m (pc + 1) ls (.int (h k i.toNatClampNeg) :: rest))) : W p l e R s m args below meth c H locs cells slots Q (F0 m pc ls (.int i :: .ref (ad k) :: rest)) := by
  obtain ⟨hx, hb, hml, hown, hts, hK, hA, hB, -⟩ := C
  have he := ce_wl_get ad cA h X hk
  rw [hl] at he
  exact va_iald (D := D) hx hb hK hH.1 k 0 he rfl hin hdg kk
theorem ce_bald (C : ce_Cx p s m args c meth cc nL ret own D ad cA B0 St) (hH : ce_H D ad cA B0 X s h H locs) {k n : Nat} (hk : k < 96) (hl : ce_lay k = .inl (1, n)) {i : Int32} (hin : vp_in i n) (hdg : decode cc pc = .ok (.baload, 1))
    (kk : W p l e R s m args below meth c H locs cells slots Q (F0 m (pc + 1) ls (.int (h k i.toNatClampNeg) :: rest))) : W p l e R s m args below meth c H locs cells slots Q (F0 m pc ls (.int i :: .ref (ad k) :: rest)) := by
  obtain ⟨hx, hb, hml, hown, hts, hK, hA, hB, -⟩ := C
  have he := ce_wl_get ad cA h X hk
  rw [hl] at he
  exact va_bald (D := D) hx hb hK hH.1 k 1 he rfl hin hdg kk
theorem ce_zald (C : ce_Cx p s m args c meth cc nL ret own D ad cA B0 St) (hH : ce_H D ad cA B0 X s h H locs) {k n : Nat} (hk : k < 96) (hl : ce_lay k = .inl (2, n)) {i : Int32} (hin : vp_in i n) (hdg : decode cc pc = .ok (.baload, 1))
    (kk : W p l e R s m args below meth c H locs cells slots Q (F0 m (pc + 1) ls (.int (h k i.toNatClampNeg) :: rest))) : W p l e R s m args below meth c H locs cells slots Q (F0 m pc ls (.int i :: .ref (ad k) :: rest)) := by
  obtain ⟨hx, hb, hml, hown, hts, hK, hA, hB, -⟩ := C
  have he := ce_wl_get ad cA h X hk
  rw [hl] at he
  exact va_zald (D := D) hx hb hK hH.1 k 2 he rfl hin hdg kk
theorem ce_iast (C : ce_Cx p s m args c meth cc nL ret own D ad cA B0 St) (hH : ce_H D ad cA B0 X s h H locs) {k n : Nat} (hk : k < 96) (hl : ce_lay k = .inl (0, n)) {i x : Int32} (hin : vp_in i n) (hdg : decode cc pc = .ok (.iastore, 1))
    (kk : ∀ (H1 : Heap) (locs1 : List Loc), ce_H D ad cA B0 X s (hp_up h k i.toNatClampNeg x) H1 locs1 → W p l e R s m args below meth c H1 locs1 cells slots Q (F0 m (pc + 1) ls rest)) : W p l e R s m args below meth c H locs cells slots Q (F0 m pc ls (.int x :: .int i :: .ref (ad k) :: rest)) := by
  obtain ⟨hx, hb, hml, hown, hts, hK, hA, hB, -⟩ := C
  have he := ce_wl_get ad cA h X hk
  rw [hl] at he
  have e1 := ce_wl_set ad cA h X hk i.toNatClampNeg x
  rw [hl] at e1
  refine va_iast (D := D) hx hb hK hH.1 hH.2.1 hH.2.2 k 0 he rfl hin hdg (fun H1 locs1 q1 q2 q3 => kk H1 locs1 ⟨?_, ?_, q3⟩)
  · exact e1 ▸ q1
  · exact e1 ▸ q2
theorem ce_bast (C : ce_Cx p s m args c meth cc nL ret own D ad cA B0 St) (hH : ce_H D ad cA B0 X s h H locs) {k n : Nat} (hk : k < 96) (hl : ce_lay k = .inl (1, n)) {i x : Int32} (hin : vp_in i n) (hdg : decode cc pc = .ok (.bastore, 1))
    (kk : ∀ (H1 : Heap) (locs1 : List Loc), ce_H D ad cA B0 X s (hp_up h k i.toNatClampNeg (vp_nar .byte x)) H1 locs1 → W p l e R s m args below meth c H1 locs1 cells slots Q (F0 m (pc + 1) ls rest)) : W p l e R s m args below meth c H locs cells slots Q (F0 m pc ls (.int x :: .int i :: .ref (ad k) :: rest)) := by
  obtain ⟨hx, hb, hml, hown, hts, hK, hA, hB, -⟩ := C
  have he := ce_wl_get ad cA h X hk
  rw [hl] at he
  have e1 := ce_wl_set ad cA h X hk i.toNatClampNeg (vp_nar .byte x)
  rw [hl] at e1
  refine va_bast (D := D) hx hb hK hH.1 hH.2.1 hH.2.2 k 1 he rfl hin hdg (fun H1 locs1 q1 q2 q3 => kk H1 locs1 ⟨?_, ?_, q3⟩)
  · exact e1 ▸ q1
  · exact e1 ▸ q2
theorem ce_zast (C : ce_Cx p s m args c meth cc nL ret own D ad cA B0 St) (hH : ce_H D ad cA B0 X s h H locs) {k n : Nat} (hk : k < 96) (hl : ce_lay k = .inl (2, n)) {i x : Int32} (hin : vp_in i n) (hdg : decode cc pc = .ok (.bastore, 1))
    (kk : ∀ (H1 : Heap) (locs1 : List Loc), ce_H D ad cA B0 X s (hp_up h k i.toNatClampNeg (vp_nar .boolean x)) H1 locs1 → W p l e R s m args below meth c H1 locs1 cells slots Q (F0 m (pc + 1) ls rest)) : W p l e R s m args below meth c H locs cells slots Q (F0 m pc ls (.int x :: .int i :: .ref (ad k) :: rest)) := by
  obtain ⟨hx, hb, hml, hown, hts, hK, hA, hB, -⟩ := C
  have he := ce_wl_get ad cA h X hk
  rw [hl] at he
  have e1 := ce_wl_set ad cA h X hk i.toNatClampNeg (vp_nar .boolean x)
  rw [hl] at e1
  refine va_zast (D := D) hx hb hK hH.1 hH.2.1 hH.2.2 k 2 he rfl hin hdg (fun H1 locs1 q1 q2 q3 => kk H1 locs1 ⟨?_, ?_, q3⟩)
  · exact e1 ▸ q1
  · exact e1 ▸ q2
theorem ce_alen (C : ce_Cx p s m args c meth cc nL ret own D ad cA B0 St) (hH : ce_H D ad cA B0 X s h H locs) {k n : Nat} (hk : k < 96) (hl : ce_lay k = .inl (0, n)) (hdg : decode cc pc = .ok (.arraylength, 1))
    (kk : W p l e R s m args below meth c H locs cells slots Q (F0 m (pc + 1) ls (.int (nI n) :: rest))) : W p l e R s m args below meth c H locs cells slots Q (F0 m pc ls (.ref (ad k) :: rest)) := by
  obtain ⟨hx, hb, hml, hown, hts, hK, hA, hB, -⟩ := C
  have he := ce_wl_get ad cA h X hk
  rw [hl] at he
  exact va_alen (D := D) hx hb hK hH.1 k 0 he (ty := .int) rfl rfl hdg kk
end CE

