/-! Names: fields of the kinds of objects, the words of the tables by their places, the methods. Written by a program of mine (wip/p1/gen_names.py). -/
def TX0 : u_T := fun k => match k with
  | 0 => ("QuorumStore$Lead", "nothing", "LQuorumStore$Value;", true)
  | 1 => ("QuorumStore$Lead", "grants", "I", false)
  | 2 => ("QuorumStore$Lead", "best", "LQuorumStore$Row;", true)
  | 3 => ("QuorumStore$Lead", "proposals", "LQuorumStore$Row;", true)
  | 4 => ("QuorumStore$Lead", "queue", "[LQuorumStore$Value;", true)
  | 5 => ("QuorumStore$Lead", "queued", "I", false)
  | 6 => ("QuorumStore$Lead", "settledAt", "I", false)
  | _ => ("QuorumStore$Lead", "settledPeers", "I", false)
def tyX0 : Nat → FieldType := fun k => match k with
  | 0 => .object "QuorumStore$Value"
  | 1 => .int
  | 2 => .object "QuorumStore$Row"
  | 3 => .object "QuorumStore$Row"
  | 4 => .array (.object "QuorumStore$Value")
  | 5 => .int
  | 6 => .int
  | _ => .int
theorem nmX0 : ∀ a, a < 8 → ∀ b, b < 8 → a ≠ b → (TX0 a).2.1 ≠ (TX0 b).2.1 := by decide +kernel
theorem okX0 : ∀ k, k < 8 → parseFieldDescriptor (TX0 k).2.2.1 = some (tyX0 k) := by decide +kernel
theorem inX0 : ∀ w ∈ u_ws "QuorumStore$Lead" TX0 8, w ∈ xw_T := xw_all _ [148, 150, 152, 154, 156, 158, 160, 162] (by decide +kernel) (by decide +kernel)
def TX1 : u_T := fun k => match k with
  | 0 => ("QuorumStore$Message", "kind", "I", true)
  | 1 => ("QuorumStore$Message", "from", "I", true)
  | 2 => ("QuorumStore$Message", "to", "I", true)
  | 3 => ("QuorumStore$Message", "ballot", "I", true)
  | 4 => ("QuorumStore$Message", "slot", "I", true)
  | 5 => ("QuorumStore$Message", "value", "LQuorumStore$Value;", true)
  | 6 => ("QuorumStore$Message", "list", "LQuorumStore$Row;", false)
  | _ => ("QuorumStore$Message", "state", "LQuorumStore$State;", false)
def tyX1 : Nat → FieldType := fun k => match k with
  | 0 => .int
  | 1 => .int
  | 2 => .int
  | 3 => .int
  | 4 => .int
  | 5 => .object "QuorumStore$Value"
  | 6 => .object "QuorumStore$Row"
  | _ => .object "QuorumStore$State"
theorem nmX1 : ∀ a, a < 8 → ∀ b, b < 8 → a ≠ b → (TX1 a).2.1 ≠ (TX1 b).2.1 := by decide +kernel
theorem okX1 : ∀ k, k < 8 → parseFieldDescriptor (TX1 k).2.2.1 = some (tyX1 k) := by decide +kernel
theorem inX1 : ∀ w ∈ u_ws "QuorumStore$Message" TX1 8, w ∈ xw_T := xw_all _ [399, 401, 403, 405, 407, 409, 411, 413] (by decide +kernel) (by decide +kernel)
def TX2 : u_T := fun k => match k with
  | 0 => ("QuorumStore$Network", "row", "[LQuorumStore$Message;", true)
  | 1 => ("QuorumStore$Network", "size", "I", false)
  | 2 => ("QuorumStore$Network", "sent", "I", false)
  | 3 => ("QuorumStore$Network", "lost", "I", false)
  | _ => ("QuorumStore$Network", "delivered", "I", false)
def tyX2 : Nat → FieldType := fun k => match k with
  | 0 => .array (.object "QuorumStore$Message")
  | 1 => .int
  | 2 => .int
  | 3 => .int
  | _ => .int
theorem nmX2 : ∀ a, a < 5 → ∀ b, b < 5 → a ≠ b → (TX2 a).2.1 ≠ (TX2 b).2.1 := by decide +kernel
theorem okX2 : ∀ k, k < 5 → parseFieldDescriptor (TX2 k).2.2.1 = some (tyX2 k) := by decide +kernel
theorem inX2 : ∀ w ∈ u_ws "QuorumStore$Network" TX2 5, w ∈ xw_T := xw_all _ [49, 51, 53, 55, 57] (by decide +kernel) (by decide +kernel)
def TX3 : u_T := fun k => match k with
  | 0 => ("QuorumStore$Node", "number", "I", true)
  | 1 => ("QuorumStore$Node", "network", "LQuorumStore$Network;", true)
  | 2 => ("QuorumStore$Node", "promised", "I", false)
  | 3 => ("QuorumStore$Node", "applied", "I", false)
  | 4 => ("QuorumStore$Node", "base", "I", false)
  | 5 => ("QuorumStore$Node", "state", "LQuorumStore$State;", true)
  | 6 => ("QuorumStore$Node", "accepted", "LQuorumStore$Row;", true)
  | 7 => ("QuorumStore$Node", "known", "LQuorumStore$Row;", true)
  | 8 => ("QuorumStore$Node", "live", "Z", false)
  | 9 => ("QuorumStore$Node", "leads", "Z", false)
  | 10 => ("QuorumStore$Node", "ballot", "I", false)
  | 11 => ("QuorumStore$Node", "timer", "I", false)
  | 12 => ("QuorumStore$Node", "leader", "I", false)
  | 13 => ("QuorumStore$Node", "told", "I", false)
  | _ => ("QuorumStore$Node", "lead", "LQuorumStore$Lead;", true)
def tyX3 : Nat → FieldType := fun k => match k with
  | 0 => .int
  | 1 => .object "QuorumStore$Network"
  | 2 => .int
  | 3 => .int
  | 4 => .int
  | 5 => .object "QuorumStore$State"
  | 6 => .object "QuorumStore$Row"
  | 7 => .object "QuorumStore$Row"
  | 8 => .boolean
  | 9 => .boolean
  | 10 => .int
  | 11 => .int
  | 12 => .int
  | 13 => .int
  | _ => .object "QuorumStore$Lead"
theorem nmX3 : ∀ a, a < 15 → ∀ b, b < 15 → a ≠ b → (TX3 a).2.1 ≠ (TX3 b).2.1 := by decide +kernel
theorem okX3 : ∀ k, k < 15 → parseFieldDescriptor (TX3 k).2.2.1 = some (tyX3 k) := by decide +kernel
theorem inX3 : ∀ w ∈ u_ws "QuorumStore$Node" TX3 15, w ∈ xw_T := xw_all _ [224, 226, 228, 230, 232, 234, 236, 238, 240, 242, 244, 246, 248, 250, 252] (by decide +kernel) (by decide +kernel)
def TX4 : u_T := fun k => match k with
  | 0 => ("QuorumStore$Row", "slots", "[I", true)
  | 1 => ("QuorumStore$Row", "marks", "[I", true)
  | _ => ("QuorumStore$Row", "values", "[LQuorumStore$Value;", true)
def tyX4 : Nat → FieldType := fun k => match k with
  | 0 => .array (.int)
  | 1 => .array (.int)
  | _ => .array (.object "QuorumStore$Value")
theorem nmX4 : ∀ a, a < 3 → ∀ b, b < 3 → a ≠ b → (TX4 a).2.1 ≠ (TX4 b).2.1 := by decide +kernel
theorem okX4 : ∀ k, k < 3 → parseFieldDescriptor (TX4 k).2.2.1 = some (tyX4 k) := by decide +kernel
theorem inX4 : ∀ w ∈ u_ws "QuorumStore$Row" TX4 3, w ∈ xw_T := xw_all _ [79, 81, 83] (by decide +kernel) (by decide +kernel)
def TX5 : u_T := fun k => match k with
  | 0 => ("QuorumStore$State", "numbers", "[J", true)
  | 1 => ("QuorumStore$State", "seqs", "[I", true)
  | 2 => ("QuorumStore$State", "results", "[J", true)
  | 3 => ("QuorumStore$State", "configSlots", "[I", true)
  | 4 => ("QuorumStore$State", "configMasks", "[I", true)
  | _ => ("QuorumStore$State", "configs", "I", false)
def tyX5 : Nat → FieldType := fun k => match k with
  | 0 => .array (.long)
  | 1 => .array (.int)
  | 2 => .array (.long)
  | 3 => .array (.int)
  | 4 => .array (.int)
  | _ => .int
theorem nmX5 : ∀ a, a < 6 → ∀ b, b < 6 → a ≠ b → (TX5 a).2.1 ≠ (TX5 b).2.1 := by decide +kernel
theorem okX5 : ∀ k, k < 6 → parseFieldDescriptor (TX5 k).2.2.1 = some (tyX5 k) := by decide +kernel
theorem inX5 : ∀ w ∈ u_ws "QuorumStore$State" TX5 6, w ∈ xw_T := xw_all _ [183, 185, 187, 189, 191, 193] (by decide +kernel) (by decide +kernel)
def TX6 : u_T := fun k => match k with
  | 0 => ("QuorumStore$Value", "kind", "I", true)
  | 1 => ("QuorumStore$Value", "client", "I", true)
  | 2 => ("QuorumStore$Value", "seq", "I", true)
  | 3 => ("QuorumStore$Value", "key", "I", true)
  | 4 => ("QuorumStore$Value", "a", "I", true)
  | _ => ("QuorumStore$Value", "b", "I", true)
def tyX6 : Nat → FieldType := fun k => match k with
  | 0 => .int
  | 1 => .int
  | 2 => .int
  | 3 => .int
  | 4 => .int
  | _ => .int
theorem nmX6 : ∀ a, a < 6 → ∀ b, b < 6 → a ≠ b → (TX6 a).2.1 ≠ (TX6 b).2.1 := by decide +kernel
theorem okX6 : ∀ k, k < 6 → parseFieldDescriptor (TX6 k).2.2.1 = some (tyX6 k) := by decide +kernel
theorem inX6 : ∀ w ∈ u_ws "QuorumStore$Value" TX6 6, w ∈ xw_T := xw_all _ [119, 121, 123, 125, 127, 129] (by decide +kernel) (by decide +kernel)
def TX7 : u_T := fun k => match k with
  | 0 => ("QuorumStore", "network", "LQuorumStore$Network;", true)
  | 1 => ("QuorumStore", "nodes", "[LQuorumStore$Node;", true)
  | _ => ("QuorumStore", "nextKey", "I", false)
def tyX7 : Nat → FieldType := fun k => match k with
  | 0 => .object "QuorumStore$Network"
  | 1 => .array (.object "QuorumStore$Node")
  | _ => .int
theorem nmX7 : ∀ a, a < 3 → ∀ b, b < 3 → a ≠ b → (TX7 a).2.1 ≠ (TX7 b).2.1 := by decide +kernel
theorem okX7 : ∀ k, k < 3 → parseFieldDescriptor (TX7 k).2.2.1 = some (tyX7 k) := by decide +kernel
theorem inX7 : ∀ w ∈ u_ws "QuorumStore" TX7 3, w ∈ xw_T := xw_all _ [258, 260, 262] (by decide +kernel) (by decide +kernel)
def TX8 : u_T := fun k => match k with
  | 0 => ("QuorumStoreModel$Message", "kind", "I", false)
  | 1 => ("QuorumStoreModel$Message", "from", "I", false)
  | 2 => ("QuorumStoreModel$Message", "to", "I", false)
  | 3 => ("QuorumStoreModel$Message", "ballot", "I", false)
  | 4 => ("QuorumStoreModel$Message", "slot", "I", false)
  | 5 => ("QuorumStoreModel$Message", "value", "LQuorumStoreModel$Value;", false)
  | 6 => ("QuorumStoreModel$Message", "list", "LQuorumStoreModel$Slots;", true)
  | _ => ("QuorumStoreModel$Message", "state", "LQuorumStoreModel$State;", true)
def tyX8 : Nat → FieldType := fun k => match k with
  | 0 => .int
  | 1 => .int
  | 2 => .int
  | 3 => .int
  | 4 => .int
  | 5 => .object "QuorumStoreModel$Value"
  | 6 => .object "QuorumStoreModel$Slots"
  | _ => .object "QuorumStoreModel$State"
theorem nmX8 : ∀ a, a < 8 → ∀ b, b < 8 → a ≠ b → (TX8 a).2.1 ≠ (TX8 b).2.1 := by decide +kernel
theorem okX8 : ∀ k, k < 8 → parseFieldDescriptor (TX8 k).2.2.1 = some (tyX8 k) := by decide +kernel
theorem inX8 : ∀ w ∈ u_ws "QuorumStoreModel$Message" TX8 8, w ∈ xw_T := xw_all _ [902, 904, 906, 908, 910, 912, 914, 916] (by decide +kernel) (by decide +kernel)
def TX9 : u_T := fun k => match k with
  | 0 => ("QuorumStoreModel$Node", "number", "I", true)
  | 1 => ("QuorumStoreModel$Node", "live", "Z", false)
  | 2 => ("QuorumStoreModel$Node", "leads", "Z", false)
  | 3 => ("QuorumStoreModel$Node", "promised", "I", false)
  | 4 => ("QuorumStoreModel$Node", "base", "I", false)
  | 5 => ("QuorumStoreModel$Node", "ballot", "I", false)
  | 6 => ("QuorumStoreModel$Node", "timer", "I", false)
  | 7 => ("QuorumStoreModel$Node", "leader", "I", false)
  | 8 => ("QuorumStoreModel$Node", "grants", "I", false)
  | 9 => ("QuorumStoreModel$Node", "told", "I", false)
  | 10 => ("QuorumStoreModel$Node", "state", "LQuorumStoreModel$State;", true)
  | 11 => ("QuorumStoreModel$Node", "accepted", "LQuorumStoreModel$Slots;", true)
  | 12 => ("QuorumStoreModel$Node", "known", "LQuorumStoreModel$Slots;", true)
  | 13 => ("QuorumStoreModel$Node", "best", "LQuorumStoreModel$Slots;", true)
  | 14 => ("QuorumStoreModel$Node", "proposals", "LQuorumStoreModel$Slots;", true)
  | 15 => ("QuorumStoreModel$Node", "queue", "[LQuorumStoreModel$Value;", true)
  | _ => ("QuorumStoreModel$Node", "queued", "I", false)
def tyX9 : Nat → FieldType := fun k => match k with
  | 0 => .int
  | 1 => .boolean
  | 2 => .boolean
  | 3 => .int
  | 4 => .int
  | 5 => .int
  | 6 => .int
  | 7 => .int
  | 8 => .int
  | 9 => .int
  | 10 => .object "QuorumStoreModel$State"
  | 11 => .object "QuorumStoreModel$Slots"
  | 12 => .object "QuorumStoreModel$Slots"
  | 13 => .object "QuorumStoreModel$Slots"
  | 14 => .object "QuorumStoreModel$Slots"
  | 15 => .array (.object "QuorumStoreModel$Value")
  | _ => .int
theorem nmX9 : ∀ a, a < 17 → ∀ b, b < 17 → a ≠ b → (TX9 a).2.1 ≠ (TX9 b).2.1 := by decide +kernel
theorem okX9 : ∀ k, k < 17 → parseFieldDescriptor (TX9 k).2.2.1 = some (tyX9 k) := by decide +kernel
theorem inX9 : ∀ w ∈ u_ws "QuorumStoreModel$Node" TX9 17, w ∈ xw_T := xw_all _ [956, 958, 960, 962, 964, 966, 968, 970, 972, 974, 976, 978, 980, 982, 984, 986, 988] (by decide +kernel) (by decide +kernel)
def TX10 : u_T := fun k => match k with
  | 0 => ("QuorumStoreModel$Slots", "slot", "[I", false)
  | 1 => ("QuorumStoreModel$Slots", "number", "[I", false)
  | 2 => ("QuorumStoreModel$Slots", "value", "[LQuorumStoreModel$Value;", false)
  | _ => ("QuorumStoreModel$Slots", "n", "I", false)
def tyX10 : Nat → FieldType := fun k => match k with
  | 0 => .array (.int)
  | 1 => .array (.int)
  | 2 => .array (.object "QuorumStoreModel$Value")
  | _ => .int
theorem nmX10 : ∀ a, a < 4 → ∀ b, b < 4 → a ≠ b → (TX10 a).2.1 ≠ (TX10 b).2.1 := by decide +kernel
theorem okX10 : ∀ k, k < 4 → parseFieldDescriptor (TX10 k).2.2.1 = some (tyX10 k) := by decide +kernel
theorem inX10 : ∀ w ∈ u_ws "QuorumStoreModel$Slots" TX10 4, w ∈ xw_T := xw_all _ [843, 845, 847, 849] (by decide +kernel) (by decide +kernel)
def TX11 : u_T := fun k => match k with
  | 0 => ("QuorumStoreModel$State", "applied", "I", false)
  | 1 => ("QuorumStoreModel$State", "numbers", "[J", true)
  | 2 => ("QuorumStoreModel$State", "results", "[J", true)
  | 3 => ("QuorumStoreModel$State", "seqs", "[I", true)
  | 4 => ("QuorumStoreModel$State", "from", "[I", false)
  | 5 => ("QuorumStoreModel$State", "mask", "[I", false)
  | _ => ("QuorumStoreModel$State", "configs", "I", false)
def tyX11 : Nat → FieldType := fun k => match k with
  | 0 => .int
  | 1 => .array (.long)
  | 2 => .array (.long)
  | 3 => .array (.int)
  | 4 => .array (.int)
  | 5 => .array (.int)
  | _ => .int
theorem nmX11 : ∀ a, a < 7 → ∀ b, b < 7 → a ≠ b → (TX11 a).2.1 ≠ (TX11 b).2.1 := by decide +kernel
theorem okX11 : ∀ k, k < 7 → parseFieldDescriptor (TX11 k).2.2.1 = some (tyX11 k) := by decide +kernel
theorem inX11 : ∀ w ∈ u_ws "QuorumStoreModel$State" TX11 7, w ∈ xw_T := xw_all _ [871, 873, 875, 877, 879, 881, 883] (by decide +kernel) (by decide +kernel)
def TX12 : u_T := fun k => match k with
  | 0 => ("QuorumStoreModel$Value", "kind", "I", true)
  | 1 => ("QuorumStoreModel$Value", "client", "I", true)
  | 2 => ("QuorumStoreModel$Value", "seq", "I", true)
  | 3 => ("QuorumStoreModel$Value", "key", "I", true)
  | 4 => ("QuorumStoreModel$Value", "a", "I", true)
  | _ => ("QuorumStoreModel$Value", "b", "I", true)
def tyX12 : Nat → FieldType := fun k => match k with
  | 0 => .int
  | 1 => .int
  | 2 => .int
  | 3 => .int
  | 4 => .int
  | _ => .int
theorem nmX12 : ∀ a, a < 6 → ∀ b, b < 6 → a ≠ b → (TX12 a).2.1 ≠ (TX12 b).2.1 := by decide +kernel
theorem okX12 : ∀ k, k < 6 → parseFieldDescriptor (TX12 k).2.2.1 = some (tyX12 k) := by decide +kernel
theorem inX12 : ∀ w ∈ u_ws "QuorumStoreModel$Value" TX12 6, w ∈ xw_T := xw_all _ [1250, 1252, 1254, 1256, 1258, 1260] (by decide +kernel) (by decide +kernel)
def TX13 : u_T := fun k => match k with
  | 0 => ("QuorumStoreModel", "thrown", "I", false)
  | 1 => ("QuorumStoreModel", "key", "I", false)
  | 2 => ("QuorumStoreModel", "sent", "I", false)
  | 3 => ("QuorumStoreModel", "lost", "I", false)
  | 4 => ("QuorumStoreModel", "delivered", "I", false)
  | 5 => ("QuorumStoreModel", "messages", "I", false)
  | 6 => ("QuorumStoreModel", "node", "[LQuorumStoreModel$Node;", true)
  | 7 => ("QuorumStoreModel", "way", "[LQuorumStoreModel$Message;", true)
  | 8 => ("QuorumStoreModel", "hand", "LQuorumStoreModel$Message;", true)
  | _ => ("QuorumStoreModel", "taken", "LQuorumStoreModel$Message;", true)
def tyX13 : Nat → FieldType := fun k => match k with
  | 0 => .int
  | 1 => .int
  | 2 => .int
  | 3 => .int
  | 4 => .int
  | 5 => .int
  | 6 => .array (.object "QuorumStoreModel$Node")
  | 7 => .array (.object "QuorumStoreModel$Message")
  | 8 => .object "QuorumStoreModel$Message"
  | _ => .object "QuorumStoreModel$Message"
theorem nmX13 : ∀ a, a < 10 → ∀ b, b < 10 → a ≠ b → (TX13 a).2.1 ≠ (TX13 b).2.1 := by decide +kernel
theorem okX13 : ∀ k, k < 10 → parseFieldDescriptor (TX13 k).2.2.1 = some (tyX13 k) := by decide +kernel
theorem inX13 : ∀ w ∈ u_ws "QuorumStoreModel" TX13 10, w ∈ xw_T := xw_all _ [1005, 1007, 1009, 1011, 1013, 1015, 1017, 1019, 1021, 1023] (by decide +kernel) (by decide +kernel)
abbrev vwCl : List vw_C := [("QuorumStore$Lead", TX0, 8), ("QuorumStore$Message", TX1, 8), ("QuorumStore$Network", TX2, 5), ("QuorumStore$Node", TX3, 15), ("QuorumStore$Row", TX4, 3), ("QuorumStore$State", TX5, 6), ("QuorumStore$Value", TX6, 6), ("QuorumStore", TX7, 3), ("QuorumStoreModel$Message", TX8, 8), ("QuorumStoreModel$Node", TX9, 17), ("QuorumStoreModel$Slots", TX10, 4), ("QuorumStoreModel$State", TX11, 7), ("QuorumStoreModel$Value", TX12, 6), ("QuorumStoreModel", TX13, 10)]
theorem k_0 : (Cond.initialized "QuorumStoreLaw") ∈ xw_T := xw_in 0 (by decide +kernel) (by decide +kernel)
theorem k_1 : (Cond.initialized "QuorumStore") ∈ xw_T := xw_in 1 (by decide +kernel) (by decide +kernel)
theorem k_2 : (Cond.initialized "QuorumStore$Network") ∈ xw_T := xw_in 2 (by decide +kernel) (by decide +kernel)
theorem k_3 : (Cond.initialized "QuorumStore$Node") ∈ xw_T := xw_in 3 (by decide +kernel) (by decide +kernel)
theorem k_4 : (Cond.initialized "QuorumStore$Row") ∈ xw_T := xw_in 4 (by decide +kernel) (by decide +kernel)
theorem k_5 : (Cond.initialized "QuorumStore$Lead") ∈ xw_T := xw_in 5 (by decide +kernel) (by decide +kernel)
theorem k_6 : (Cond.initialized "QuorumStore$Value") ∈ xw_T := xw_in 6 (by decide +kernel) (by decide +kernel)
theorem k_7 : (Cond.initialized "QuorumStore$State") ∈ xw_T := xw_in 7 (by decide +kernel) (by decide +kernel)
theorem k_8 : (Cond.initialized "QuorumStoreModel") ∈ xw_T := xw_in 8 (by decide +kernel) (by decide +kernel)
theorem k_9 : (Cond.initialized "QuorumStoreModel$Message") ∈ xw_T := xw_in 9 (by decide +kernel) (by decide +kernel)
theorem k_10 : (Cond.initialized "QuorumStoreModel$Slots") ∈ xw_T := xw_in 10 (by decide +kernel) (by decide +kernel)
theorem k_11 : (Cond.initialized "QuorumStoreModel$State") ∈ xw_T := xw_in 11 (by decide +kernel) (by decide +kernel)
theorem k_12 : (Cond.initialized "QuorumStoreModel$Node") ∈ xw_T := xw_in 12 (by decide +kernel) (by decide +kernel)
theorem k_13 : (Cond.initialized "java/lang/Throwable") ∈ xw_T := xw_in 13 (by decide +kernel) (by decide +kernel)
theorem k_14 : (Cond.initialized "java/lang/Exception") ∈ xw_T := xw_in 14 (by decide +kernel) (by decide +kernel)
theorem k_15 : (Cond.initialized "java/lang/RuntimeException") ∈ xw_T := xw_in 15 (by decide +kernel) (by decide +kernel)
theorem k_16 : (Cond.initialized "java/lang/IllegalArgumentException") ∈ xw_T := xw_in 16 (by decide +kernel) (by decide +kernel)
theorem k_17 : (Cond.initialized "QuorumStore$Message") ∈ xw_T := xw_in 17 (by decide +kernel) (by decide +kernel)
theorem k_18 : (Cond.initialized "java/lang/Math") ∈ xw_T := xw_in 18 (by decide +kernel) (by decide +kernel)
theorem k_19 : (Cond.initialized "java/lang/Integer") ∈ xw_T := xw_in 19 (by decide +kernel) (by decide +kernel)
theorem k_20 : (Cond.initialized "java/util/NoSuchElementException") ∈ xw_T := xw_in 20 (by decide +kernel) (by decide +kernel)
theorem k_21 : (Cond.initialized "java/lang/System") ∈ xw_T := xw_in 21 (by decide +kernel) (by decide +kernel)
theorem k_22 : (Cond.initialized "java/lang/IllegalStateException") ∈ xw_T := xw_in 22 (by decide +kernel) (by decide +kernel)
theorem k_23 : (Cond.initialized "QuorumStoreModel$Value") ∈ xw_T := xw_in 23 (by decide +kernel) (by decide +kernel)
theorem k_24 : (Cond.classLink "QuorumStoreLaw" (8 : Nat) "QuorumStore") ∈ xw_T := xw_in 24 (by decide +kernel) (by decide +kernel)
theorem k_25 : (Cond.instantiable "QuorumStore" (3 : Nat)) ∈ xw_T := xw_in 25 (by decide +kernel) (by decide +kernel)
theorem k_26 : (Cond.methodLink "QuorumStoreLaw" (67 : Nat) ({ cls := "QuorumStore", name := "<init>", desc := "(I)V" } : Jvm.MethodName)) ∈ xw_T := xw_in 26 (by decide +kernel) (by decide +kernel)
theorem k_27 : (Cond.instanceMethod ({ cls := "QuorumStore", name := "<init>", desc := "(I)V" } : Jvm.MethodName)) ∈ xw_T := xw_in 27 (by decide +kernel) (by decide +kernel)
theorem k_28 : (Cond.code ({ cls := "QuorumStore", name := "<init>", desc := "(I)V" } : Jvm.MethodName) prog_1_method_1_code (5 : Nat) (Option.none : Option Jvm.ClassFile.FieldType)) ∈ xw_T := xw_in 28 (by decide +kernel) (by decide +kernel)
theorem k_29 : (Cond.methodLink "QuorumStore" (1 : Nat) ({ cls := "java/lang/Object", name := "<init>", desc := "()V" } : Jvm.MethodName)) ∈ xw_T := xw_in 29 (by decide +kernel) (by decide +kernel)
theorem k_30 : (Cond.instanceMethod ({ cls := "java/lang/Object", name := "<init>", desc := "()V" } : Jvm.MethodName)) ∈ xw_T := xw_in 30 (by decide +kernel) (by decide +kernel)
theorem k_31 : (Cond.code ({ cls := "java/lang/Object", name := "<init>", desc := "()V" } : Jvm.MethodName) object_method_1_code (1 : Nat) (Option.none : Option Jvm.ClassFile.FieldType)) ∈ xw_T := xw_in 31 (by decide +kernel) (by decide +kernel)
theorem k_32 : (Cond.classLink "QuorumStore" (9 : Nat) "QuorumStore$Network") ∈ xw_T := xw_in 32 (by decide +kernel) (by decide +kernel)
theorem k_33 : (Cond.instantiable "QuorumStore$Network" (5 : Nat)) ∈ xw_T := xw_in 33 (by decide +kernel) (by decide +kernel)
theorem k_34 : (Cond.methodLinkNest "QuorumStore" (11 : Nat) ({ cls := "QuorumStore$Network", name := "<init>", desc := "()V" } : Jvm.MethodName) "QuorumStore") ∈ xw_T := xw_in 34 (by decide +kernel) (by decide +kernel)
theorem k_35 : (Cond.instanceMethod ({ cls := "QuorumStore$Network", name := "<init>", desc := "()V" } : Jvm.MethodName)) ∈ xw_T := xw_in 35 (by decide +kernel) (by decide +kernel)
theorem k_36 : (Cond.code ({ cls := "QuorumStore$Network", name := "<init>", desc := "()V" } : Jvm.MethodName) prog_4_method_1_code (1 : Nat) (Option.none : Option Jvm.ClassFile.FieldType)) ∈ xw_T := xw_in 36 (by decide +kernel) (by decide +kernel)
theorem k_37 : (Cond.methodLink "QuorumStore$Network" (3 : Nat) ({ cls := "java/lang/Object", name := "<init>", desc := "()V" } : Jvm.MethodName)) ∈ xw_T := xw_in 37 (by decide +kernel) (by decide +kernel)
theorem k_38 : (Cond.classLink "QuorumStore$Network" (9 : Nat) "QuorumStore$Message") ∈ xw_T := xw_in 38 (by decide +kernel) (by decide +kernel)
theorem k_39 : (Cond.arrayOver (Jvm.ClassFile.FieldType.object "QuorumStore$Message")) ∈ xw_T := xw_in 39 (by decide +kernel) (by decide +kernel)
theorem k_40 : (Cond.fieldLink "QuorumStore$Network" (11 : Nat) "QuorumStore$Network" "row" "[LQuorumStore$Message;") ∈ xw_T := xw_in 40 (by decide +kernel) (by decide +kernel)
theorem k_41 : (Cond.fieldLink "QuorumStore" (240 : Nat) "QuorumStore$Network" "row" "[LQuorumStore$Message;") ∈ xw_T := xw_in 41 (by decide +kernel) (by decide +kernel)
theorem k_42 : (Cond.fieldLink "QuorumStore$Network" (17 : Nat) "QuorumStore$Network" "size" "I") ∈ xw_T := xw_in 42 (by decide +kernel) (by decide +kernel)
theorem k_43 : (Cond.fieldLink "QuorumStore" (35 : Nat) "QuorumStore$Network" "size" "I") ∈ xw_T := xw_in 43 (by decide +kernel) (by decide +kernel)
theorem k_44 : (Cond.fieldLink "QuorumStore$Network" (21 : Nat) "QuorumStore$Network" "sent" "I") ∈ xw_T := xw_in 44 (by decide +kernel) (by decide +kernel)
theorem k_45 : (Cond.fieldLink "QuorumStore" (230 : Nat) "QuorumStore$Network" "sent" "I") ∈ xw_T := xw_in 45 (by decide +kernel) (by decide +kernel)
theorem k_46 : (Cond.fieldLink "QuorumStore$Network" (24 : Nat) "QuorumStore$Network" "lost" "I") ∈ xw_T := xw_in 46 (by decide +kernel) (by decide +kernel)
theorem k_47 : (Cond.fieldLink "QuorumStore" (233 : Nat) "QuorumStore$Network" "lost" "I") ∈ xw_T := xw_in 47 (by decide +kernel) (by decide +kernel)
theorem k_48 : (Cond.fieldLink "QuorumStore" (56 : Nat) "QuorumStore$Network" "delivered" "I") ∈ xw_T := xw_in 48 (by decide +kernel) (by decide +kernel)
theorem k_60 : (Cond.classLink "QuorumStore" (16 : Nat) "QuorumStore$Node") ∈ xw_T := xw_in 60 (by decide +kernel) (by decide +kernel)
theorem k_61 : (Cond.arrayOver (Jvm.ClassFile.FieldType.object "QuorumStore$Node")) ∈ xw_T := xw_in 61 (by decide +kernel) (by decide +kernel)
theorem k_62 : (Cond.instantiable "QuorumStore$Node" (15 : Nat)) ∈ xw_T := xw_in 62 (by decide +kernel) (by decide +kernel)
theorem k_63 : (Cond.methodLink "QuorumStore" (22 : Nat) ({ cls := "QuorumStore$Node", name := "<init>", desc := "(IILQuorumStore$Network;)V" } : Jvm.MethodName)) ∈ xw_T := xw_in 63 (by decide +kernel) (by decide +kernel)
theorem k_64 : (Cond.instanceMethod ({ cls := "QuorumStore$Node", name := "<init>", desc := "(IILQuorumStore$Network;)V" } : Jvm.MethodName)) ∈ xw_T := xw_in 64 (by decide +kernel) (by decide +kernel)
theorem k_65 : (Cond.code ({ cls := "QuorumStore$Node", name := "<init>", desc := "(IILQuorumStore$Network;)V" } : Jvm.MethodName) prog_5_method_1_code (4 : Nat) (Option.none : Option Jvm.ClassFile.FieldType)) ∈ xw_T := xw_in 65 (by decide +kernel) (by decide +kernel)
theorem k_66 : (Cond.methodLink "QuorumStore$Node" (3 : Nat) ({ cls := "java/lang/Object", name := "<init>", desc := "()V" } : Jvm.MethodName)) ∈ xw_T := xw_in 66 (by decide +kernel) (by decide +kernel)
theorem k_67 : (Cond.classLink "QuorumStore$Node" (9 : Nat) "QuorumStore$Row") ∈ xw_T := xw_in 67 (by decide +kernel) (by decide +kernel)
theorem k_68 : (Cond.instantiable "QuorumStore$Row" (3 : Nat)) ∈ xw_T := xw_in 68 (by decide +kernel) (by decide +kernel)
theorem k_69 : (Cond.methodLink "QuorumStore$Node" (11 : Nat) ({ cls := "QuorumStore$Row", name := "<init>", desc := "(I)V" } : Jvm.MethodName)) ∈ xw_T := xw_in 69 (by decide +kernel) (by decide +kernel)
theorem k_70 : (Cond.instanceMethod ({ cls := "QuorumStore$Row", name := "<init>", desc := "(I)V" } : Jvm.MethodName)) ∈ xw_T := xw_in 70 (by decide +kernel) (by decide +kernel)
theorem k_71 : (Cond.code ({ cls := "QuorumStore$Row", name := "<init>", desc := "(I)V" } : Jvm.MethodName) prog_6_method_1_code (2 : Nat) (Option.none : Option Jvm.ClassFile.FieldType)) ∈ xw_T := xw_in 71 (by decide +kernel) (by decide +kernel)
theorem k_72 : (Cond.methodLink "QuorumStore$Row" (1 : Nat) ({ cls := "java/lang/Object", name := "<init>", desc := "()V" } : Jvm.MethodName)) ∈ xw_T := xw_in 72 (by decide +kernel) (by decide +kernel)
theorem k_73 : (Cond.classLink "QuorumStore$Row" (16 : Nat) "QuorumStore$Value") ∈ xw_T := xw_in 73 (by decide +kernel) (by decide +kernel)
theorem k_74 : (Cond.arrayOver (Jvm.ClassFile.FieldType.object "QuorumStore$Value")) ∈ xw_T := xw_in 74 (by decide +kernel) (by decide +kernel)
theorem k_75 : (Cond.fieldLink "QuorumStore$Row" (7 : Nat) "QuorumStore$Row" "slots" "[I") ∈ xw_T := xw_in 75 (by decide +kernel) (by decide +kernel)
theorem k_76 : (Cond.fieldLink "QuorumStore$Row" (13 : Nat) "QuorumStore$Row" "marks" "[I") ∈ xw_T := xw_in 76 (by decide +kernel) (by decide +kernel)
theorem k_77 : (Cond.fieldLink "QuorumStore$Row" (18 : Nat) "QuorumStore$Row" "values" "[LQuorumStore$Value;") ∈ xw_T := xw_in 77 (by decide +kernel) (by decide +kernel)
theorem k_78 : (Cond.fieldLink "QuorumStore$Lead" (70 : Nat) "QuorumStore$Row" "values" "[LQuorumStore$Value;") ∈ xw_T := xw_in 78 (by decide +kernel) (by decide +kernel)
theorem k_86 : (Cond.arrayClass Jvm.ClassFile.FieldType.int) ∈ xw_T := xw_in 86 (by decide +kernel) (by decide +kernel)
theorem k_87 : (Cond.classLink "QuorumStore$Node" (23 : Nat) "QuorumStore$Lead") ∈ xw_T := xw_in 87 (by decide +kernel) (by decide +kernel)
theorem k_88 : (Cond.instantiable "QuorumStore$Lead" (8 : Nat)) ∈ xw_T := xw_in 88 (by decide +kernel) (by decide +kernel)
theorem k_89 : (Cond.methodLinkNest "QuorumStore$Node" (25 : Nat) ({ cls := "QuorumStore$Lead", name := "<init>", desc := "()V" } : Jvm.MethodName) "QuorumStore") ∈ xw_T := xw_in 89 (by decide +kernel) (by decide +kernel)
theorem k_90 : (Cond.instanceMethod ({ cls := "QuorumStore$Lead", name := "<init>", desc := "()V" } : Jvm.MethodName)) ∈ xw_T := xw_in 90 (by decide +kernel) (by decide +kernel)
theorem k_91 : (Cond.code ({ cls := "QuorumStore$Lead", name := "<init>", desc := "()V" } : Jvm.MethodName) prog_2_method_1_code (1 : Nat) (Option.none : Option Jvm.ClassFile.FieldType)) ∈ xw_T := xw_in 91 (by decide +kernel) (by decide +kernel)
theorem k_92 : (Cond.methodLink "QuorumStore$Lead" (3 : Nat) ({ cls := "java/lang/Object", name := "<init>", desc := "()V" } : Jvm.MethodName)) ∈ xw_T := xw_in 92 (by decide +kernel) (by decide +kernel)
theorem k_93 : (Cond.classLink "QuorumStore$Lead" (9 : Nat) "QuorumStore$Value") ∈ xw_T := xw_in 93 (by decide +kernel) (by decide +kernel)
theorem k_94 : (Cond.instantiable "QuorumStore$Value" (6 : Nat)) ∈ xw_T := xw_in 94 (by decide +kernel) (by decide +kernel)
theorem k_95 : (Cond.methodLink "QuorumStore$Lead" (11 : Nat) ({ cls := "QuorumStore$Value", name := "<init>", desc := "(IIIIII)V" } : Jvm.MethodName)) ∈ xw_T := xw_in 95 (by decide +kernel) (by decide +kernel)
theorem k_96 : (Cond.instanceMethod ({ cls := "QuorumStore$Value", name := "<init>", desc := "(IIIIII)V" } : Jvm.MethodName)) ∈ xw_T := xw_in 96 (by decide +kernel) (by decide +kernel)
theorem k_97 : (Cond.code ({ cls := "QuorumStore$Value", name := "<init>", desc := "(IIIIII)V" } : Jvm.MethodName) prog_8_method_1_code (7 : Nat) (Option.none : Option Jvm.ClassFile.FieldType)) ∈ xw_T := xw_in 97 (by decide +kernel) (by decide +kernel)
theorem k_98 : (Cond.methodLink "QuorumStore$Value" (1 : Nat) ({ cls := "java/lang/Object", name := "<init>", desc := "()V" } : Jvm.MethodName)) ∈ xw_T := xw_in 98 (by decide +kernel) (by decide +kernel)
theorem k_99 : (Cond.fieldLink "QuorumStore$Value" (7 : Nat) "QuorumStore$Value" "kind" "I") ∈ xw_T := xw_in 99 (by decide +kernel) (by decide +kernel)
theorem k_100 : (Cond.fieldLink "QuorumStore$State" (48 : Nat) "QuorumStore$Value" "kind" "I") ∈ xw_T := xw_in 100 (by decide +kernel) (by decide +kernel)
theorem k_101 : (Cond.fieldLink "QuorumStore" (168 : Nat) "QuorumStore$Value" "kind" "I") ∈ xw_T := xw_in 101 (by decide +kernel) (by decide +kernel)
theorem k_102 : (Cond.fieldLink "QuorumStore$Value" (13 : Nat) "QuorumStore$Value" "client" "I") ∈ xw_T := xw_in 102 (by decide +kernel) (by decide +kernel)
theorem k_103 : (Cond.fieldLink "QuorumStore$State" (56 : Nat) "QuorumStore$Value" "client" "I") ∈ xw_T := xw_in 103 (by decide +kernel) (by decide +kernel)
theorem k_104 : (Cond.fieldLink "QuorumStore$Lead" (73 : Nat) "QuorumStore$Value" "client" "I") ∈ xw_T := xw_in 104 (by decide +kernel) (by decide +kernel)
theorem k_105 : (Cond.fieldLink "QuorumStore" (169 : Nat) "QuorumStore$Value" "client" "I") ∈ xw_T := xw_in 105 (by decide +kernel) (by decide +kernel)
theorem k_106 : (Cond.fieldLink "QuorumStore$Value" (16 : Nat) "QuorumStore$Value" "seq" "I") ∈ xw_T := xw_in 106 (by decide +kernel) (by decide +kernel)
theorem k_107 : (Cond.fieldLink "QuorumStore$State" (53 : Nat) "QuorumStore$Value" "seq" "I") ∈ xw_T := xw_in 107 (by decide +kernel) (by decide +kernel)
theorem k_108 : (Cond.fieldLink "QuorumStore$Lead" (76 : Nat) "QuorumStore$Value" "seq" "I") ∈ xw_T := xw_in 108 (by decide +kernel) (by decide +kernel)
theorem k_109 : (Cond.fieldLink "QuorumStore" (172 : Nat) "QuorumStore$Value" "seq" "I") ∈ xw_T := xw_in 109 (by decide +kernel) (by decide +kernel)
theorem k_110 : (Cond.fieldLink "QuorumStore$Value" (19 : Nat) "QuorumStore$Value" "key" "I") ∈ xw_T := xw_in 110 (by decide +kernel) (by decide +kernel)
theorem k_111 : (Cond.fieldLink "QuorumStore$State" (70 : Nat) "QuorumStore$Value" "key" "I") ∈ xw_T := xw_in 111 (by decide +kernel) (by decide +kernel)
theorem k_112 : (Cond.fieldLink "QuorumStore" (175 : Nat) "QuorumStore$Value" "key" "I") ∈ xw_T := xw_in 112 (by decide +kernel) (by decide +kernel)
theorem k_113 : (Cond.fieldLink "QuorumStore$Value" (22 : Nat) "QuorumStore$Value" "a" "I") ∈ xw_T := xw_in 113 (by decide +kernel) (by decide +kernel)
theorem k_114 : (Cond.fieldLink "QuorumStore$State" (59 : Nat) "QuorumStore$Value" "a" "I") ∈ xw_T := xw_in 114 (by decide +kernel) (by decide +kernel)
theorem k_115 : (Cond.fieldLink "QuorumStore" (178 : Nat) "QuorumStore$Value" "a" "I") ∈ xw_T := xw_in 115 (by decide +kernel) (by decide +kernel)
theorem k_116 : (Cond.fieldLink "QuorumStore$Value" (25 : Nat) "QuorumStore$Value" "b" "I") ∈ xw_T := xw_in 116 (by decide +kernel) (by decide +kernel)
theorem k_117 : (Cond.fieldLink "QuorumStore$State" (73 : Nat) "QuorumStore$Value" "b" "I") ∈ xw_T := xw_in 117 (by decide +kernel) (by decide +kernel)
theorem k_118 : (Cond.fieldLink "QuorumStore" (181 : Nat) "QuorumStore$Value" "b" "I") ∈ xw_T := xw_in 118 (by decide +kernel) (by decide +kernel)
theorem k_132 : (Cond.classLink "QuorumStore$Lead" (20 : Nat) "QuorumStore$Row") ∈ xw_T := xw_in 132 (by decide +kernel) (by decide +kernel)
theorem k_133 : (Cond.methodLink "QuorumStore$Lead" (22 : Nat) ({ cls := "QuorumStore$Row", name := "<init>", desc := "(I)V" } : Jvm.MethodName)) ∈ xw_T := xw_in 133 (by decide +kernel) (by decide +kernel)
theorem k_134 : (Cond.fieldLink "QuorumStore$Lead" (14 : Nat) "QuorumStore$Lead" "nothing" "LQuorumStore$Value;") ∈ xw_T := xw_in 134 (by decide +kernel) (by decide +kernel)
theorem k_135 : (Cond.fieldLink "QuorumStore$Lead" (36 : Nat) "QuorumStore$Lead" "grants" "I") ∈ xw_T := xw_in 135 (by decide +kernel) (by decide +kernel)
theorem k_136 : (Cond.fieldLink "QuorumStore$Node" (103 : Nat) "QuorumStore$Lead" "grants" "I") ∈ xw_T := xw_in 136 (by decide +kernel) (by decide +kernel)
theorem k_137 : (Cond.fieldLink "QuorumStore" (216 : Nat) "QuorumStore$Lead" "grants" "I") ∈ xw_T := xw_in 137 (by decide +kernel) (by decide +kernel)
theorem k_138 : (Cond.fieldLink "QuorumStore$Lead" (25 : Nat) "QuorumStore$Lead" "best" "LQuorumStore$Row;") ∈ xw_T := xw_in 138 (by decide +kernel) (by decide +kernel)
theorem k_139 : (Cond.fieldLink "QuorumStore$Node" (164 : Nat) "QuorumStore$Lead" "best" "LQuorumStore$Row;") ∈ xw_T := xw_in 139 (by decide +kernel) (by decide +kernel)
theorem k_140 : (Cond.fieldLink "QuorumStore$Lead" (29 : Nat) "QuorumStore$Lead" "proposals" "LQuorumStore$Row;") ∈ xw_T := xw_in 140 (by decide +kernel) (by decide +kernel)
theorem k_141 : (Cond.fieldLink "QuorumStore$Node" (106 : Nat) "QuorumStore$Lead" "proposals" "LQuorumStore$Row;") ∈ xw_T := xw_in 141 (by decide +kernel) (by decide +kernel)
theorem k_142 : (Cond.fieldLink "QuorumStore" (219 : Nat) "QuorumStore$Lead" "proposals" "LQuorumStore$Row;") ∈ xw_T := xw_in 142 (by decide +kernel) (by decide +kernel)
theorem k_143 : (Cond.fieldLink "QuorumStore$Lead" (32 : Nat) "QuorumStore$Lead" "queue" "[LQuorumStore$Value;") ∈ xw_T := xw_in 143 (by decide +kernel) (by decide +kernel)
theorem k_144 : (Cond.fieldLink "QuorumStore$Lead" (43 : Nat) "QuorumStore$Lead" "queued" "I") ∈ xw_T := xw_in 144 (by decide +kernel) (by decide +kernel)
theorem k_145 : (Cond.fieldLink "QuorumStore" (211 : Nat) "QuorumStore$Lead" "queued" "I") ∈ xw_T := xw_in 145 (by decide +kernel) (by decide +kernel)
theorem k_146 : (Cond.fieldLink "QuorumStore$Node" (133 : Nat) "QuorumStore$Lead" "settledAt" "I") ∈ xw_T := xw_in 146 (by decide +kernel) (by decide +kernel)
theorem k_147 : (Cond.fieldLink "QuorumStore$Node" (136 : Nat) "QuorumStore$Lead" "settledPeers" "I") ∈ xw_T := xw_in 147 (by decide +kernel) (by decide +kernel)
theorem k_165 : (Cond.classLink "QuorumStore$Node" (38 : Nat) "QuorumStore$State") ∈ xw_T := xw_in 165 (by decide +kernel) (by decide +kernel)
theorem k_166 : (Cond.instantiable "QuorumStore$State" (6 : Nat)) ∈ xw_T := xw_in 166 (by decide +kernel) (by decide +kernel)
theorem k_167 : (Cond.methodLink "QuorumStore$Node" (40 : Nat) ({ cls := "QuorumStore$State", name := "<init>", desc := "(I)V" } : Jvm.MethodName)) ∈ xw_T := xw_in 167 (by decide +kernel) (by decide +kernel)
theorem k_168 : (Cond.instanceMethod ({ cls := "QuorumStore$State", name := "<init>", desc := "(I)V" } : Jvm.MethodName)) ∈ xw_T := xw_in 168 (by decide +kernel) (by decide +kernel)
theorem k_169 : (Cond.code ({ cls := "QuorumStore$State", name := "<init>", desc := "(I)V" } : Jvm.MethodName) prog_7_method_1_code (3 : Nat) (Option.none : Option Jvm.ClassFile.FieldType)) ∈ xw_T := xw_in 169 (by decide +kernel) (by decide +kernel)
theorem k_170 : (Cond.methodLink "QuorumStore$State" (3 : Nat) ({ cls := "java/lang/Object", name := "<init>", desc := "()V" } : Jvm.MethodName)) ∈ xw_T := xw_in 170 (by decide +kernel) (by decide +kernel)
theorem k_171 : (Cond.constantLong "QuorumStore$State" (28 : Nat) (1099511627776 : Int64)) ∈ xw_T := xw_in 171 (by decide +kernel) (by decide +kernel)
theorem k_172 : (Cond.fieldLink "QuorumStore$State" (9 : Nat) "QuorumStore$State" "numbers" "[J") ∈ xw_T := xw_in 172 (by decide +kernel) (by decide +kernel)
theorem k_173 : (Cond.fieldLink "QuorumStore" (156 : Nat) "QuorumStore$State" "numbers" "[J") ∈ xw_T := xw_in 173 (by decide +kernel) (by decide +kernel)
theorem k_174 : (Cond.fieldLink "QuorumStore$State" (15 : Nat) "QuorumStore$State" "seqs" "[I") ∈ xw_T := xw_in 174 (by decide +kernel) (by decide +kernel)
theorem k_175 : (Cond.fieldLink "QuorumStore" (139 : Nat) "QuorumStore$State" "seqs" "[I") ∈ xw_T := xw_in 175 (by decide +kernel) (by decide +kernel)
theorem k_176 : (Cond.fieldLink "QuorumStore$Node" (184 : Nat) "QuorumStore$State" "seqs" "[I") ∈ xw_T := xw_in 176 (by decide +kernel) (by decide +kernel)
theorem k_177 : (Cond.fieldLink "QuorumStore$State" (19 : Nat) "QuorumStore$State" "results" "[J") ∈ xw_T := xw_in 177 (by decide +kernel) (by decide +kernel)
theorem k_178 : (Cond.fieldLink "QuorumStore" (145 : Nat) "QuorumStore$State" "results" "[J") ∈ xw_T := xw_in 178 (by decide +kernel) (by decide +kernel)
theorem k_179 : (Cond.fieldLink "QuorumStore$State" (22 : Nat) "QuorumStore$State" "configSlots" "[I") ∈ xw_T := xw_in 179 (by decide +kernel) (by decide +kernel)
theorem k_180 : (Cond.fieldLink "QuorumStore$State" (25 : Nat) "QuorumStore$State" "configMasks" "[I") ∈ xw_T := xw_in 180 (by decide +kernel) (by decide +kernel)
theorem k_181 : (Cond.fieldLink "QuorumStore$State" (30 : Nat) "QuorumStore$State" "configs" "I") ∈ xw_T := xw_in 181 (by decide +kernel) (by decide +kernel)
theorem k_182 : (Cond.fieldLink "QuorumStore" (225 : Nat) "QuorumStore$State" "configs" "I") ∈ xw_T := xw_in 182 (by decide +kernel) (by decide +kernel)
theorem k_196 : (Cond.arrayClass Jvm.ClassFile.FieldType.long) ∈ xw_T := xw_in 196 (by decide +kernel) (by decide +kernel)
theorem k_197 : (Cond.fieldLink "QuorumStore$Node" (30 : Nat) "QuorumStore$Node" "number" "I") ∈ xw_T := xw_in 197 (by decide +kernel) (by decide +kernel)
theorem k_198 : (Cond.fieldLink "QuorumStore$Node" (34 : Nat) "QuorumStore$Node" "network" "LQuorumStore$Network;") ∈ xw_T := xw_in 198 (by decide +kernel) (by decide +kernel)
theorem k_199 : (Cond.fieldLink "QuorumStore$Node" (120 : Nat) "QuorumStore$Node" "promised" "I") ∈ xw_T := xw_in 199 (by decide +kernel) (by decide +kernel)
theorem k_200 : (Cond.fieldLink "QuorumStore" (188 : Nat) "QuorumStore$Node" "promised" "I") ∈ xw_T := xw_in 200 (by decide +kernel) (by decide +kernel)
theorem k_201 : (Cond.fieldLink "QuorumStore$Node" (70 : Nat) "QuorumStore$Node" "applied" "I") ∈ xw_T := xw_in 201 (by decide +kernel) (by decide +kernel)
theorem k_202 : (Cond.fieldLink "QuorumStore" (191 : Nat) "QuorumStore$Node" "applied" "I") ∈ xw_T := xw_in 202 (by decide +kernel) (by decide +kernel)
theorem k_203 : (Cond.fieldLink "QuorumStore" (194 : Nat) "QuorumStore$Node" "base" "I") ∈ xw_T := xw_in 203 (by decide +kernel) (by decide +kernel)
theorem k_204 : (Cond.fieldLink "QuorumStore$Node" (181 : Nat) "QuorumStore$Node" "base" "I") ∈ xw_T := xw_in 204 (by decide +kernel) (by decide +kernel)
theorem k_205 : (Cond.fieldLink "QuorumStore$Node" (41 : Nat) "QuorumStore$Node" "state" "LQuorumStore$State;") ∈ xw_T := xw_in 205 (by decide +kernel) (by decide +kernel)
theorem k_206 : (Cond.fieldLink "QuorumStore" (135 : Nat) "QuorumStore$Node" "state" "LQuorumStore$State;") ∈ xw_T := xw_in 206 (by decide +kernel) (by decide +kernel)
theorem k_207 : (Cond.fieldLink "QuorumStore$Node" (14 : Nat) "QuorumStore$Node" "accepted" "LQuorumStore$Row;") ∈ xw_T := xw_in 207 (by decide +kernel) (by decide +kernel)
theorem k_208 : (Cond.fieldLink "QuorumStore" (222 : Nat) "QuorumStore$Node" "accepted" "LQuorumStore$Row;") ∈ xw_T := xw_in 208 (by decide +kernel) (by decide +kernel)
theorem k_209 : (Cond.fieldLink "QuorumStore$Node" (20 : Nat) "QuorumStore$Node" "known" "LQuorumStore$Row;") ∈ xw_T := xw_in 209 (by decide +kernel) (by decide +kernel)
theorem k_210 : (Cond.fieldLink "QuorumStore" (159 : Nat) "QuorumStore$Node" "known" "LQuorumStore$Row;") ∈ xw_T := xw_in 210 (by decide +kernel) (by decide +kernel)
theorem k_211 : (Cond.fieldLink "QuorumStore$Node" (45 : Nat) "QuorumStore$Node" "live" "Z") ∈ xw_T := xw_in 211 (by decide +kernel) (by decide +kernel)
theorem k_212 : (Cond.fieldLink "QuorumStore" (52 : Nat) "QuorumStore$Node" "live" "Z") ∈ xw_T := xw_in 212 (by decide +kernel) (by decide +kernel)
theorem k_213 : (Cond.fieldLink "QuorumStore$Node" (58 : Nat) "QuorumStore$Node" "leads" "Z") ∈ xw_T := xw_in 213 (by decide +kernel) (by decide +kernel)
theorem k_214 : (Cond.fieldLink "QuorumStore" (184 : Nat) "QuorumStore$Node" "leads" "Z") ∈ xw_T := xw_in 214 (by decide +kernel) (by decide +kernel)
theorem k_215 : (Cond.fieldLink "QuorumStore$Node" (61 : Nat) "QuorumStore$Node" "ballot" "I") ∈ xw_T := xw_in 215 (by decide +kernel) (by decide +kernel)
theorem k_216 : (Cond.fieldLink "QuorumStore" (187 : Nat) "QuorumStore$Node" "ballot" "I") ∈ xw_T := xw_in 216 (by decide +kernel) (by decide +kernel)
theorem k_217 : (Cond.fieldLink "QuorumStore$Node" (52 : Nat) "QuorumStore$Node" "timer" "I") ∈ xw_T := xw_in 217 (by decide +kernel) (by decide +kernel)
theorem k_218 : (Cond.fieldLink "QuorumStore" (204 : Nat) "QuorumStore$Node" "timer" "I") ∈ xw_T := xw_in 218 (by decide +kernel) (by decide +kernel)
theorem k_219 : (Cond.fieldLink "QuorumStore$Node" (49 : Nat) "QuorumStore$Node" "leader" "I") ∈ xw_T := xw_in 219 (by decide +kernel) (by decide +kernel)
theorem k_220 : (Cond.fieldLink "QuorumStore" (201 : Nat) "QuorumStore$Node" "leader" "I") ∈ xw_T := xw_in 220 (by decide +kernel) (by decide +kernel)
theorem k_221 : (Cond.fieldLink "QuorumStore$Node" (64 : Nat) "QuorumStore$Node" "told" "I") ∈ xw_T := xw_in 221 (by decide +kernel) (by decide +kernel)
theorem k_222 : (Cond.fieldLink "QuorumStore$Node" (26 : Nat) "QuorumStore$Node" "lead" "LQuorumStore$Lead;") ∈ xw_T := xw_in 222 (by decide +kernel) (by decide +kernel)
theorem k_223 : (Cond.fieldLink "QuorumStore" (207 : Nat) "QuorumStore$Node" "lead" "LQuorumStore$Lead;") ∈ xw_T := xw_in 223 (by decide +kernel) (by decide +kernel)
theorem k_255 : (Cond.fieldLink "QuorumStore" (12 : Nat) "QuorumStore" "network" "LQuorumStore$Network;") ∈ xw_T := xw_in 255 (by decide +kernel) (by decide +kernel)
theorem k_256 : (Cond.fieldLink "QuorumStore" (18 : Nat) "QuorumStore" "nodes" "[LQuorumStore$Node;") ∈ xw_T := xw_in 256 (by decide +kernel) (by decide +kernel)
theorem k_257 : (Cond.fieldLink "QuorumStore" (114 : Nat) "QuorumStore" "nextKey" "I") ∈ xw_T := xw_in 257 (by decide +kernel) (by decide +kernel)
theorem k_265 : (Cond.methodLink "QuorumStoreLaw" (120 : Nat) ({ cls := "QuorumStore", name := "count", desc := "(I)I" } : Jvm.MethodName)) ∈ xw_T := xw_in 265 (by decide +kernel) (by decide +kernel)
theorem k_266 : (Cond.instanceMethod ({ cls := "QuorumStore", name := "count", desc := "(I)I" } : Jvm.MethodName)) ∈ xw_T := xw_in 266 (by decide +kernel) (by decide +kernel)
theorem k_267 : (Cond.selects "QuorumStore" ({ cls := "QuorumStore", name := "count", desc := "(I)I" } : Jvm.MethodName) ({ cls := "QuorumStore", name := "count", desc := "(I)I" } : Jvm.MethodName)) ∈ xw_T := xw_in 267 (by decide +kernel) (by decide +kernel)
theorem k_268 : (Cond.code ({ cls := "QuorumStore", name := "count", desc := "(I)I" } : Jvm.MethodName) prog_1_method_15_code (2 : Nat) (Option.some Jvm.ClassFile.FieldType.int)) ∈ xw_T := xw_in 268 (by decide +kernel) (by decide +kernel)
theorem k_269 : (Cond.methodLink "QuorumStoreLaw" (61 : Nat) ({ cls := "QuorumStoreLaw", name := "cell", desc := "([II)I" } : Jvm.MethodName)) ∈ xw_T := xw_in 269 (by decide +kernel) (by decide +kernel)
theorem k_270 : (Cond.static ({ cls := "QuorumStoreLaw", name := "cell", desc := "([II)I" } : Jvm.MethodName)) ∈ xw_T := xw_in 270 (by decide +kernel) (by decide +kernel)
theorem k_271 : (Cond.code ({ cls := "QuorumStoreLaw", name := "cell", desc := "([II)I" } : Jvm.MethodName) method_2_code (2 : Nat) (Option.some Jvm.ClassFile.FieldType.int)) ∈ xw_T := xw_in 271 (by decide +kernel) (by decide +kernel)
theorem k_272 : (Cond.methodLink "QuorumStoreLaw" (72 : Nat) ({ cls := "QuorumStoreLaw", name := "tick", desc := "(LQuorumStore;I[J)I" } : Jvm.MethodName)) ∈ xw_T := xw_in 272 (by decide +kernel) (by decide +kernel)
theorem k_273 : (Cond.static ({ cls := "QuorumStoreLaw", name := "tick", desc := "(LQuorumStore;I[J)I" } : Jvm.MethodName)) ∈ xw_T := xw_in 273 (by decide +kernel) (by decide +kernel)
theorem k_275 : (Cond.classLink "QuorumStoreLaw" (13 : Nat) "java/lang/IllegalArgumentException") ∈ xw_T := xw_in 275 (by decide +kernel) (by decide +kernel)
theorem k_276 : (Cond.methodLink "QuorumStoreLaw" (7 : Nat) ({ cls := "QuorumStore", name := "tick", desc := "(I)I" } : Jvm.MethodName)) ∈ xw_T := xw_in 276 (by decide +kernel) (by decide +kernel)
theorem k_277 : (Cond.instanceMethod ({ cls := "QuorumStore", name := "tick", desc := "(I)I" } : Jvm.MethodName)) ∈ xw_T := xw_in 277 (by decide +kernel) (by decide +kernel)
theorem k_278 : (Cond.selects "QuorumStore" ({ cls := "QuorumStore", name := "tick", desc := "(I)I" } : Jvm.MethodName) ({ cls := "QuorumStore", name := "tick", desc := "(I)I" } : Jvm.MethodName)) ∈ xw_T := xw_in 278 (by decide +kernel) (by decide +kernel)
theorem k_279 : (Cond.code ({ cls := "QuorumStore", name := "tick", desc := "(I)I" } : Jvm.MethodName) prog_1_method_2_code (4 : Nat) (Option.some Jvm.ClassFile.FieldType.int)) ∈ xw_T := xw_in 279 (by decide +kernel) (by decide +kernel)
theorem k_280 : (Cond.classLink "QuorumStore" (25 : Nat) "java/lang/IllegalArgumentException") ∈ xw_T := xw_in 280 (by decide +kernel) (by decide +kernel)
theorem k_281 : (Cond.instantiable "java/lang/IllegalArgumentException" (6 : Nat)) ∈ xw_T := xw_in 281 (by decide +kernel) (by decide +kernel)
theorem k_282 : (Cond.castable "java/lang/IllegalArgumentException" "java/lang/IllegalArgumentException") ∈ xw_T := xw_in 282 (by decide +kernel) (by decide +kernel)
theorem k_289 : (Cond.selects "java/lang/IllegalArgumentException" ({ cls := "java/lang/Throwable", name := "fillInStackTrace", desc := "(I)Ljava/lang/Throwable;" } : Jvm.MethodName) ({ cls := "java/lang/Throwable", name := "fillInStackTrace", desc := "(I)Ljava/lang/Throwable;" } : Jvm.MethodName)) ∈ xw_T := xw_in 289 (by decide +kernel) (by decide +kernel)
theorem k_290 : (Cond.selects "java/lang/IllegalArgumentException" ({ cls := "java/lang/Throwable", name := "fillInStackTrace", desc := "()Ljava/lang/Throwable;" } : Jvm.MethodName) ({ cls := "java/lang/Throwable", name := "fillInStackTrace", desc := "()Ljava/lang/Throwable;" } : Jvm.MethodName)) ∈ xw_T := xw_in 290 (by decide +kernel) (by decide +kernel)
theorem k_301 : (Cond.fieldLink "java/lang/Throwable" (198 : Nat) "java/lang/Throwable" "backtrace" "Ljava/lang/Object;") ∈ xw_T := xw_in 301 (by decide +kernel) (by decide +kernel)
theorem k_303 : (Cond.instanceMethod ({ cls := "java/lang/Throwable", name := "<init>", desc := "()V" } : Jvm.MethodName)) ∈ xw_T := xw_in 303 (by decide +kernel) (by decide +kernel)
theorem k_305 : (Cond.methodLink "java/lang/Throwable" (1 : Nat) ({ cls := "java/lang/Object", name := "<init>", desc := "()V" } : Jvm.MethodName)) ∈ xw_T := xw_in 305 (by decide +kernel) (by decide +kernel)
theorem k_306 : (Cond.fieldLink "java/lang/Throwable" (13 : Nat) "java/lang/Throwable" "UNASSIGNED_STACK" "[Ljava/lang/StackTraceElement;") ∈ xw_T := xw_in 306 (by decide +kernel) (by decide +kernel)
theorem k_308 : (Cond.fieldLink "java/lang/Throwable" (20 : Nat) "java/lang/Throwable" "SUPPRESSED_SENTINEL" "Ljava/util/List;") ∈ xw_T := xw_in 308 (by decide +kernel) (by decide +kernel)
theorem k_310 : (Cond.methodLink "java/lang/Throwable" (27 : Nat) ({ cls := "java/lang/Throwable", name := "fillInStackTrace", desc := "()Ljava/lang/Throwable;" } : Jvm.MethodName)) ∈ xw_T := xw_in 310 (by decide +kernel) (by decide +kernel)
theorem k_311 : (Cond.instanceMethod ({ cls := "java/lang/Throwable", name := "fillInStackTrace", desc := "()Ljava/lang/Throwable;" } : Jvm.MethodName)) ∈ xw_T := xw_in 311 (by decide +kernel) (by decide +kernel)
theorem k_313 : (Cond.selects "java/lang/IllegalStateException" ({ cls := "java/lang/Throwable", name := "fillInStackTrace", desc := "()Ljava/lang/Throwable;" } : Jvm.MethodName) ({ cls := "java/lang/Throwable", name := "fillInStackTrace", desc := "()Ljava/lang/Throwable;" } : Jvm.MethodName)) ∈ xw_T := xw_in 313 (by decide +kernel) (by decide +kernel)
theorem k_314 : (Cond.selects "java/util/NoSuchElementException" ({ cls := "java/lang/Throwable", name := "fillInStackTrace", desc := "()Ljava/lang/Throwable;" } : Jvm.MethodName) ({ cls := "java/lang/Throwable", name := "fillInStackTrace", desc := "()Ljava/lang/Throwable;" } : Jvm.MethodName)) ∈ xw_T := xw_in 314 (by decide +kernel) (by decide +kernel)
theorem k_316 : (Cond.methodLink "java/lang/Throwable" (202 : Nat) ({ cls := "java/lang/Throwable", name := "fillInStackTrace", desc := "(I)Ljava/lang/Throwable;" } : Jvm.MethodName)) ∈ xw_T := xw_in 316 (by decide +kernel) (by decide +kernel)
theorem k_318 : (Cond.instanceMethod ({ cls := "java/lang/Throwable", name := "fillInStackTrace", desc := "(I)Ljava/lang/Throwable;" } : Jvm.MethodName)) ∈ xw_T := xw_in 318 (by decide +kernel) (by decide +kernel)
theorem k_319 : (Cond.instantiable "java/lang/Throwable" (6 : Nat)) ∈ xw_T := xw_in 319 (by decide +kernel) (by decide +kernel)
theorem k_322 : (Cond.methodLink "QuorumStore" (29 : Nat) ({ cls := "java/lang/IllegalArgumentException", name := "<init>", desc := "(Ljava/lang/String;)V" } : Jvm.MethodName)) ∈ xw_T := xw_in 322 (by decide +kernel) (by decide +kernel)
theorem k_323 : (Cond.instanceMethod ({ cls := "java/lang/IllegalArgumentException", name := "<init>", desc := "(Ljava/lang/String;)V" } : Jvm.MethodName)) ∈ xw_T := xw_in 323 (by decide +kernel) (by decide +kernel)
theorem k_325 : (Cond.methodLink "java/lang/IllegalArgumentException" (7 : Nat) ({ cls := "java/lang/RuntimeException", name := "<init>", desc := "(Ljava/lang/String;)V" } : Jvm.MethodName)) ∈ xw_T := xw_in 325 (by decide +kernel) (by decide +kernel)
theorem k_326 : (Cond.instanceMethod ({ cls := "java/lang/RuntimeException", name := "<init>", desc := "(Ljava/lang/String;)V" } : Jvm.MethodName)) ∈ xw_T := xw_in 326 (by decide +kernel) (by decide +kernel)
theorem k_328 : (Cond.methodLink "java/lang/RuntimeException" (7 : Nat) ({ cls := "java/lang/Exception", name := "<init>", desc := "(Ljava/lang/String;)V" } : Jvm.MethodName)) ∈ xw_T := xw_in 328 (by decide +kernel) (by decide +kernel)
theorem k_329 : (Cond.instanceMethod ({ cls := "java/lang/Exception", name := "<init>", desc := "(Ljava/lang/String;)V" } : Jvm.MethodName)) ∈ xw_T := xw_in 329 (by decide +kernel) (by decide +kernel)
theorem k_331 : (Cond.methodLink "java/lang/Exception" (7 : Nat) ({ cls := "java/lang/Throwable", name := "<init>", desc := "(Ljava/lang/String;)V" } : Jvm.MethodName)) ∈ xw_T := xw_in 331 (by decide +kernel) (by decide +kernel)
theorem k_332 : (Cond.instanceMethod ({ cls := "java/lang/Throwable", name := "<init>", desc := "(Ljava/lang/String;)V" } : Jvm.MethodName)) ∈ xw_T := xw_in 332 (by decide +kernel) (by decide +kernel)
theorem k_334 : (Cond.fieldLink "java/lang/Throwable" (198 : Nat) "java/lang/Throwable" "backtrace" "Ljava/lang/Object;") ∈ xw_T := xw_in 334 (by decide +kernel) (by decide +kernel)
theorem k_335 : (Cond.fieldLink "java/lang/Throwable" (31 : Nat) "java/lang/Throwable" "detailMessage" "Ljava/lang/String;") ∈ xw_T := xw_in 335 (by decide +kernel) (by decide +kernel)
theorem k_336 : (Cond.fieldLink "java/lang/Throwable" (7 : Nat) "java/lang/Throwable" "cause" "Ljava/lang/Throwable;") ∈ xw_T := xw_in 336 (by decide +kernel) (by decide +kernel)
theorem k_337 : (Cond.fieldLink "java/lang/Throwable" (17 : Nat) "java/lang/Throwable" "stackTrace" "[Ljava/lang/StackTraceElement;") ∈ xw_T := xw_in 337 (by decide +kernel) (by decide +kernel)
theorem k_338 : (Cond.fieldLink "java/lang/Throwable" (24 : Nat) "java/lang/Throwable" "suppressedExceptions" "Ljava/util/List;") ∈ xw_T := xw_in 338 (by decide +kernel) (by decide +kernel)
theorem k_347 : (Cond.arrayClass Jvm.ClassFile.FieldType.byte) ∈ xw_T := xw_in 347 (by decide +kernel) (by decide +kernel)
theorem k_348 : (Cond.methodLink "QuorumStore" (32 : Nat) ({ cls := "QuorumStore$Node", name := "passTime", desc := "()V" } : Jvm.MethodName)) ∈ xw_T := xw_in 348 (by decide +kernel) (by decide +kernel)
theorem k_349 : (Cond.instanceMethod ({ cls := "QuorumStore$Node", name := "passTime", desc := "()V" } : Jvm.MethodName)) ∈ xw_T := xw_in 349 (by decide +kernel) (by decide +kernel)
theorem k_350 : (Cond.selects "QuorumStore$Node" ({ cls := "QuorumStore$Node", name := "passTime", desc := "()V" } : Jvm.MethodName) ({ cls := "QuorumStore$Node", name := "passTime", desc := "()V" } : Jvm.MethodName)) ∈ xw_T := xw_in 350 (by decide +kernel) (by decide +kernel)
theorem k_351 : (Cond.code ({ cls := "QuorumStore$Node", name := "passTime", desc := "()V" } : Jvm.MethodName) prog_5_method_9_code (1 : Nat) (Option.none : Option Jvm.ClassFile.FieldType)) ∈ xw_T := xw_in 351 (by decide +kernel) (by decide +kernel)
theorem k_352 : (Cond.methodLink "QuorumStore$Node" (87 : Nat) ({ cls := "QuorumStore$Node", name := "beat", desc := "()V" } : Jvm.MethodName)) ∈ xw_T := xw_in 352 (by decide +kernel) (by decide +kernel)
theorem k_354 : (Cond.instanceMethod ({ cls := "QuorumStore$Node", name := "beat", desc := "()V" } : Jvm.MethodName)) ∈ xw_T := xw_in 354 (by decide +kernel) (by decide +kernel)
theorem k_355 : (Cond.code ({ cls := "QuorumStore$Node", name := "beat", desc := "()V" } : Jvm.MethodName) prog_5_method_10_code (5 : Nat) (Option.none : Option Jvm.ClassFile.FieldType)) ∈ xw_T := xw_in 355 (by decide +kernel) (by decide +kernel)
theorem k_356 : (Cond.methodLink "QuorumStore$Node" (99 : Nat) ({ cls := "QuorumStore$Node", name := "peers", desc := "()I" } : Jvm.MethodName)) ∈ xw_T := xw_in 356 (by decide +kernel) (by decide +kernel)
theorem k_358 : (Cond.instanceMethod ({ cls := "QuorumStore$Node", name := "peers", desc := "()I" } : Jvm.MethodName)) ∈ xw_T := xw_in 358 (by decide +kernel) (by decide +kernel)
theorem k_359 : (Cond.code ({ cls := "QuorumStore$Node", name := "peers", desc := "()I" } : Jvm.MethodName) prog_5_method_6_code (1 : Nat) (Option.some Jvm.ClassFile.FieldType.int)) ∈ xw_T := xw_in 359 (by decide +kernel) (by decide +kernel)
theorem k_360 : (Cond.methodLink "QuorumStore$Node" (73 : Nat) ({ cls := "QuorumStore$State", name := "membersBehind", desc := "(I)I" } : Jvm.MethodName)) ∈ xw_T := xw_in 360 (by decide +kernel) (by decide +kernel)
theorem k_361 : (Cond.instanceMethod ({ cls := "QuorumStore$State", name := "membersBehind", desc := "(I)I" } : Jvm.MethodName)) ∈ xw_T := xw_in 361 (by decide +kernel) (by decide +kernel)
theorem k_362 : (Cond.selects "QuorumStore$State" ({ cls := "QuorumStore$State", name := "membersBehind", desc := "(I)I" } : Jvm.MethodName) ({ cls := "QuorumStore$State", name := "membersBehind", desc := "(I)I" } : Jvm.MethodName)) ∈ xw_T := xw_in 362 (by decide +kernel) (by decide +kernel)
theorem k_363 : (Cond.code ({ cls := "QuorumStore$State", name := "membersBehind", desc := "(I)I" } : Jvm.MethodName) prog_7_method_4_code (4 : Nat) (Option.some Jvm.ClassFile.FieldType.int)) ∈ xw_T := xw_in 363 (by decide +kernel) (by decide +kernel)
theorem k_364 : (Cond.methodLink "QuorumStore$State" (40 : Nat) ({ cls := "QuorumStore$State", name := "configAt", desc := "(I)I" } : Jvm.MethodName)) ∈ xw_T := xw_in 364 (by decide +kernel) (by decide +kernel)
theorem k_365 : (Cond.instanceMethod ({ cls := "QuorumStore$State", name := "configAt", desc := "(I)I" } : Jvm.MethodName)) ∈ xw_T := xw_in 365 (by decide +kernel) (by decide +kernel)
theorem k_366 : (Cond.selects "QuorumStore$State" ({ cls := "QuorumStore$State", name := "configAt", desc := "(I)I" } : Jvm.MethodName) ({ cls := "QuorumStore$State", name := "configAt", desc := "(I)I" } : Jvm.MethodName)) ∈ xw_T := xw_in 366 (by decide +kernel) (by decide +kernel)
theorem k_367 : (Cond.code ({ cls := "QuorumStore$State", name := "configAt", desc := "(I)I" } : Jvm.MethodName) prog_7_method_3_code (3 : Nat) (Option.some Jvm.ClassFile.FieldType.int)) ∈ xw_T := xw_in 367 (by decide +kernel) (by decide +kernel)
theorem k_368 : (Cond.methodLinkNest "QuorumStore$Node" (77 : Nat) ({ cls := "QuorumStore", name := "isIn", desc := "(II)Z" } : Jvm.MethodName) "QuorumStore") ∈ xw_T := xw_in 368 (by decide +kernel) (by decide +kernel)
theorem k_369 : (Cond.static ({ cls := "QuorumStore", name := "isIn", desc := "(II)Z" } : Jvm.MethodName)) ∈ xw_T := xw_in 369 (by decide +kernel) (by decide +kernel)
theorem k_370 : (Cond.code ({ cls := "QuorumStore", name := "isIn", desc := "(II)Z" } : Jvm.MethodName) prog_1_method_19_code (2 : Nat) (Option.some Jvm.ClassFile.FieldType.boolean)) ∈ xw_T := xw_in 370 (by decide +kernel) (by decide +kernel)
theorem k_371 : (Cond.methodLink "QuorumStore$Node" (81 : Nat) ({ cls := "QuorumStore$Network", name := "sendPlain", desc := "(IIIIILQuorumStore$Value;)V" } : Jvm.MethodName)) ∈ xw_T := xw_in 371 (by decide +kernel) (by decide +kernel)
theorem k_372 : (Cond.instanceMethod ({ cls := "QuorumStore$Network", name := "sendPlain", desc := "(IIIIILQuorumStore$Value;)V" } : Jvm.MethodName)) ∈ xw_T := xw_in 372 (by decide +kernel) (by decide +kernel)
theorem k_373 : (Cond.selects "QuorumStore$Network" ({ cls := "QuorumStore$Network", name := "sendPlain", desc := "(IIIIILQuorumStore$Value;)V" } : Jvm.MethodName) ({ cls := "QuorumStore$Network", name := "sendPlain", desc := "(IIIIILQuorumStore$Value;)V" } : Jvm.MethodName)) ∈ xw_T := xw_in 373 (by decide +kernel) (by decide +kernel)
theorem k_374 : (Cond.code ({ cls := "QuorumStore$Network", name := "sendPlain", desc := "(IIIIILQuorumStore$Value;)V" } : Jvm.MethodName) prog_4_method_6_code (7 : Nat) (Option.none : Option Jvm.ClassFile.FieldType)) ∈ xw_T := xw_in 374 (by decide +kernel) (by decide +kernel)
theorem k_375 : (Cond.instantiable "QuorumStore$Message" (8 : Nat)) ∈ xw_T := xw_in 375 (by decide +kernel) (by decide +kernel)
theorem k_376 : (Cond.methodLink "QuorumStore$Network" (27 : Nat) ({ cls := "QuorumStore$Message", name := "<init>", desc := "(IIIIILQuorumStore$Value;)V" } : Jvm.MethodName)) ∈ xw_T := xw_in 376 (by decide +kernel) (by decide +kernel)
theorem k_377 : (Cond.instanceMethod ({ cls := "QuorumStore$Message", name := "<init>", desc := "(IIIIILQuorumStore$Value;)V" } : Jvm.MethodName)) ∈ xw_T := xw_in 377 (by decide +kernel) (by decide +kernel)
theorem k_378 : (Cond.code ({ cls := "QuorumStore$Message", name := "<init>", desc := "(IIIIILQuorumStore$Value;)V" } : Jvm.MethodName) prog_3_method_1_code (7 : Nat) (Option.none : Option Jvm.ClassFile.FieldType)) ∈ xw_T := xw_in 378 (by decide +kernel) (by decide +kernel)
theorem k_379 : (Cond.methodLink "QuorumStore$Message" (1 : Nat) ({ cls := "java/lang/Object", name := "<init>", desc := "()V" } : Jvm.MethodName)) ∈ xw_T := xw_in 379 (by decide +kernel) (by decide +kernel)
theorem k_380 : (Cond.fieldLink "QuorumStore$Message" (7 : Nat) "QuorumStore$Message" "kind" "I") ∈ xw_T := xw_in 380 (by decide +kernel) (by decide +kernel)
theorem k_381 : (Cond.fieldLink "QuorumStore" (75 : Nat) "QuorumStore$Message" "kind" "I") ∈ xw_T := xw_in 381 (by decide +kernel) (by decide +kernel)
theorem k_382 : (Cond.fieldLink "QuorumStore$Node" (199 : Nat) "QuorumStore$Message" "kind" "I") ∈ xw_T := xw_in 382 (by decide +kernel) (by decide +kernel)
theorem k_383 : (Cond.fieldLink "QuorumStore$Message" (13 : Nat) "QuorumStore$Message" "from" "I") ∈ xw_T := xw_in 383 (by decide +kernel) (by decide +kernel)
theorem k_384 : (Cond.fieldLink "QuorumStore" (78 : Nat) "QuorumStore$Message" "from" "I") ∈ xw_T := xw_in 384 (by decide +kernel) (by decide +kernel)
theorem k_385 : (Cond.fieldLink "QuorumStore$Node" (238 : Nat) "QuorumStore$Message" "from" "I") ∈ xw_T := xw_in 385 (by decide +kernel) (by decide +kernel)
theorem k_386 : (Cond.fieldLink "QuorumStore$Message" (16 : Nat) "QuorumStore$Message" "to" "I") ∈ xw_T := xw_in 386 (by decide +kernel) (by decide +kernel)
theorem k_387 : (Cond.fieldLink "QuorumStore" (47 : Nat) "QuorumStore$Message" "to" "I") ∈ xw_T := xw_in 387 (by decide +kernel) (by decide +kernel)
theorem k_388 : (Cond.fieldLink "QuorumStore$Message" (19 : Nat) "QuorumStore$Message" "ballot" "I") ∈ xw_T := xw_in 388 (by decide +kernel) (by decide +kernel)
theorem k_389 : (Cond.fieldLink "QuorumStore" (81 : Nat) "QuorumStore$Message" "ballot" "I") ∈ xw_T := xw_in 389 (by decide +kernel) (by decide +kernel)
theorem k_390 : (Cond.fieldLink "QuorumStore$Node" (237 : Nat) "QuorumStore$Message" "ballot" "I") ∈ xw_T := xw_in 390 (by decide +kernel) (by decide +kernel)
theorem k_391 : (Cond.fieldLink "QuorumStore$Message" (22 : Nat) "QuorumStore$Message" "slot" "I") ∈ xw_T := xw_in 391 (by decide +kernel) (by decide +kernel)
theorem k_392 : (Cond.fieldLink "QuorumStore" (84 : Nat) "QuorumStore$Message" "slot" "I") ∈ xw_T := xw_in 392 (by decide +kernel) (by decide +kernel)
theorem k_393 : (Cond.fieldLink "QuorumStore$Node" (227 : Nat) "QuorumStore$Message" "slot" "I") ∈ xw_T := xw_in 393 (by decide +kernel) (by decide +kernel)
theorem k_394 : (Cond.fieldLink "QuorumStore$Message" (25 : Nat) "QuorumStore$Message" "value" "LQuorumStore$Value;") ∈ xw_T := xw_in 394 (by decide +kernel) (by decide +kernel)
theorem k_395 : (Cond.fieldLink "QuorumStore$Node" (230 : Nat) "QuorumStore$Message" "value" "LQuorumStore$Value;") ∈ xw_T := xw_in 395 (by decide +kernel) (by decide +kernel)
theorem k_396 : (Cond.fieldLink "QuorumStore" (87 : Nat) "QuorumStore$Message" "list" "LQuorumStore$Row;") ∈ xw_T := xw_in 396 (by decide +kernel) (by decide +kernel)
theorem k_397 : (Cond.fieldLink "QuorumStore$Node" (259 : Nat) "QuorumStore$Message" "list" "LQuorumStore$Row;") ∈ xw_T := xw_in 397 (by decide +kernel) (by decide +kernel)
theorem k_398 : (Cond.fieldLink "QuorumStore$Node" (271 : Nat) "QuorumStore$Message" "state" "LQuorumStore$State;") ∈ xw_T := xw_in 398 (by decide +kernel) (by decide +kernel)
theorem k_416 : (Cond.methodLink "QuorumStore$Network" (30 : Nat) ({ cls := "QuorumStore$Network", name := "send", desc := "(LQuorumStore$Message;)V" } : Jvm.MethodName)) ∈ xw_T := xw_in 416 (by decide +kernel) (by decide +kernel)
theorem k_417 : (Cond.instanceMethod ({ cls := "QuorumStore$Network", name := "send", desc := "(LQuorumStore$Message;)V" } : Jvm.MethodName)) ∈ xw_T := xw_in 417 (by decide +kernel) (by decide +kernel)
theorem k_418 : (Cond.selects "QuorumStore$Network" ({ cls := "QuorumStore$Network", name := "send", desc := "(LQuorumStore$Message;)V" } : Jvm.MethodName) ({ cls := "QuorumStore$Network", name := "send", desc := "(LQuorumStore$Message;)V" } : Jvm.MethodName)) ∈ xw_T := xw_in 418 (by decide +kernel) (by decide +kernel)
theorem k_419 : (Cond.code ({ cls := "QuorumStore$Network", name := "send", desc := "(LQuorumStore$Message;)V" } : Jvm.MethodName) prog_4_method_4_code (2 : Nat) (Option.none : Option Jvm.ClassFile.FieldType)) ∈ xw_T := xw_in 419 (by decide +kernel) (by decide +kernel)
theorem k_420 : (Cond.methodLink "QuorumStore$Node" (109 : Nat) ({ cls := "QuorumStore$Row", name := "valueAt", desc := "(I)LQuorumStore$Value;" } : Jvm.MethodName)) ∈ xw_T := xw_in 420 (by decide +kernel) (by decide +kernel)
theorem k_421 : (Cond.instanceMethod ({ cls := "QuorumStore$Row", name := "valueAt", desc := "(I)LQuorumStore$Value;" } : Jvm.MethodName)) ∈ xw_T := xw_in 421 (by decide +kernel) (by decide +kernel)
theorem k_422 : (Cond.selects "QuorumStore$Row" ({ cls := "QuorumStore$Row", name := "valueAt", desc := "(I)LQuorumStore$Value;" } : Jvm.MethodName) ({ cls := "QuorumStore$Row", name := "valueAt", desc := "(I)LQuorumStore$Value;" } : Jvm.MethodName)) ∈ xw_T := xw_in 422 (by decide +kernel) (by decide +kernel)
theorem k_423 : (Cond.code ({ cls := "QuorumStore$Row", name := "valueAt", desc := "(I)LQuorumStore$Value;" } : Jvm.MethodName) prog_6_method_2_code (3 : Nat) (Option.some (Jvm.ClassFile.FieldType.object "QuorumStore$Value"))) ∈ xw_T := xw_in 423 (by decide +kernel) (by decide +kernel)
theorem k_424 : (Cond.methodLink "QuorumStore$Node" (90 : Nat) ({ cls := "QuorumStore$State", name := "configAt", desc := "(I)I" } : Jvm.MethodName)) ∈ xw_T := xw_in 424 (by decide +kernel) (by decide +kernel)
theorem k_425 : (Cond.methodLink "QuorumStore$Node" (113 : Nat) ({ cls := "QuorumStore$Row", name := "markAt", desc := "(I)I" } : Jvm.MethodName)) ∈ xw_T := xw_in 425 (by decide +kernel) (by decide +kernel)
theorem k_426 : (Cond.instanceMethod ({ cls := "QuorumStore$Row", name := "markAt", desc := "(I)I" } : Jvm.MethodName)) ∈ xw_T := xw_in 426 (by decide +kernel) (by decide +kernel)
theorem k_427 : (Cond.selects "QuorumStore$Row" ({ cls := "QuorumStore$Row", name := "markAt", desc := "(I)I" } : Jvm.MethodName) ({ cls := "QuorumStore$Row", name := "markAt", desc := "(I)I" } : Jvm.MethodName)) ∈ xw_T := xw_in 427 (by decide +kernel) (by decide +kernel)
theorem k_428 : (Cond.code ({ cls := "QuorumStore$Row", name := "markAt", desc := "(I)I" } : Jvm.MethodName) prog_6_method_3_code (3 : Nat) (Option.some Jvm.ClassFile.FieldType.int)) ∈ xw_T := xw_in 428 (by decide +kernel) (by decide +kernel)
theorem k_429 : (Cond.methodLink "QuorumStore$Node" (116 : Nat) ({ cls := "QuorumStore$Node", name := "sendEach", desc := "(IIIILQuorumStore$Value;)V" } : Jvm.MethodName)) ∈ xw_T := xw_in 429 (by decide +kernel) (by decide +kernel)
theorem k_431 : (Cond.instanceMethod ({ cls := "QuorumStore$Node", name := "sendEach", desc := "(IIIILQuorumStore$Value;)V" } : Jvm.MethodName)) ∈ xw_T := xw_in 431 (by decide +kernel) (by decide +kernel)
theorem k_432 : (Cond.code ({ cls := "QuorumStore$Node", name := "sendEach", desc := "(IIIILQuorumStore$Value;)V" } : Jvm.MethodName) prog_5_method_7_code (7 : Nat) (Option.none : Option Jvm.ClassFile.FieldType)) ∈ xw_T := xw_in 432 (by decide +kernel) (by decide +kernel)
theorem k_433 : (Cond.methodLink "QuorumStore$Node" (55 : Nat) ({ cls := "QuorumStore$Node", name := "rest", desc := "()V" } : Jvm.MethodName)) ∈ xw_T := xw_in 433 (by decide +kernel) (by decide +kernel)
theorem k_435 : (Cond.instanceMethod ({ cls := "QuorumStore$Node", name := "rest", desc := "()V" } : Jvm.MethodName)) ∈ xw_T := xw_in 435 (by decide +kernel) (by decide +kernel)
theorem k_436 : (Cond.code ({ cls := "QuorumStore$Node", name := "rest", desc := "()V" } : Jvm.MethodName) prog_5_method_4_code (1 : Nat) (Option.none : Option Jvm.ClassFile.FieldType)) ∈ xw_T := xw_in 436 (by decide +kernel) (by decide +kernel)
theorem k_437 : (Cond.methodLink "QuorumStore$Node" (93 : Nat) ({ cls := "QuorumStore$Node", name := "beginToLead", desc := "()V" } : Jvm.MethodName)) ∈ xw_T := xw_in 437 (by decide +kernel) (by decide +kernel)
theorem k_439 : (Cond.instanceMethod ({ cls := "QuorumStore$Node", name := "beginToLead", desc := "()V" } : Jvm.MethodName)) ∈ xw_T := xw_in 439 (by decide +kernel) (by decide +kernel)
theorem k_440 : (Cond.code ({ cls := "QuorumStore$Node", name := "beginToLead", desc := "()V" } : Jvm.MethodName) prog_5_method_11_code (2 : Nat) (Option.none : Option Jvm.ClassFile.FieldType)) ∈ xw_T := xw_in 440 (by decide +kernel) (by decide +kernel)
theorem k_441 : (Cond.methodLink "QuorumStore$Node" (123 : Nat) ({ cls := "java/lang/Math", name := "max", desc := "(II)I" } : Jvm.MethodName)) ∈ xw_T := xw_in 441 (by decide +kernel) (by decide +kernel)
theorem k_442 : (Cond.static ({ cls := "java/lang/Math", name := "max", desc := "(II)I" } : Jvm.MethodName)) ∈ xw_T := xw_in 442 (by decide +kernel) (by decide +kernel)
theorem k_443 : (Cond.code ({ cls := "java/lang/Math", name := "max", desc := "(II)I" } : Jvm.MethodName) prog_20_method_65_code (2 : Nat) (Option.some Jvm.ClassFile.FieldType.int)) ∈ xw_T := xw_in 443 (by decide +kernel) (by decide +kernel)
theorem k_444 : (Cond.methodLink "QuorumStore$Node" (67 : Nat) ({ cls := "QuorumStore$Lead", name := "clear", desc := "()V" } : Jvm.MethodName)) ∈ xw_T := xw_in 444 (by decide +kernel) (by decide +kernel)
theorem k_445 : (Cond.instanceMethod ({ cls := "QuorumStore$Lead", name := "clear", desc := "()V" } : Jvm.MethodName)) ∈ xw_T := xw_in 445 (by decide +kernel) (by decide +kernel)
theorem k_446 : (Cond.selects "QuorumStore$Lead" ({ cls := "QuorumStore$Lead", name := "clear", desc := "()V" } : Jvm.MethodName) ({ cls := "QuorumStore$Lead", name := "clear", desc := "()V" } : Jvm.MethodName)) ∈ xw_T := xw_in 446 (by decide +kernel) (by decide +kernel)
theorem k_447 : (Cond.code ({ cls := "QuorumStore$Lead", name := "clear", desc := "()V" } : Jvm.MethodName) prog_2_method_2_code (2 : Nat) (Option.none : Option Jvm.ClassFile.FieldType)) ∈ xw_T := xw_in 447 (by decide +kernel) (by decide +kernel)
theorem k_448 : (Cond.methodLink "QuorumStore$Lead" (40 : Nat) ({ cls := "QuorumStore$Row", name := "forgetAll", desc := "()V" } : Jvm.MethodName)) ∈ xw_T := xw_in 448 (by decide +kernel) (by decide +kernel)
theorem k_449 : (Cond.instanceMethod ({ cls := "QuorumStore$Row", name := "forgetAll", desc := "()V" } : Jvm.MethodName)) ∈ xw_T := xw_in 449 (by decide +kernel) (by decide +kernel)
theorem k_450 : (Cond.selects "QuorumStore$Row" ({ cls := "QuorumStore$Row", name := "forgetAll", desc := "()V" } : Jvm.MethodName) ({ cls := "QuorumStore$Row", name := "forgetAll", desc := "()V" } : Jvm.MethodName)) ∈ xw_T := xw_in 450 (by decide +kernel) (by decide +kernel)
theorem k_451 : (Cond.code ({ cls := "QuorumStore$Row", name := "forgetAll", desc := "()V" } : Jvm.MethodName) prog_6_method_7_code (2 : Nat) (Option.none : Option Jvm.ClassFile.FieldType)) ∈ xw_T := xw_in 451 (by decide +kernel) (by decide +kernel)
theorem k_452 : (Cond.methodLink "QuorumStore$Row" (22 : Nat) ({ cls := "QuorumStore$Row", name := "clearPlace", desc := "(I)V" } : Jvm.MethodName)) ∈ xw_T := xw_in 452 (by decide +kernel) (by decide +kernel)
theorem k_454 : (Cond.instanceMethod ({ cls := "QuorumStore$Row", name := "clearPlace", desc := "(I)V" } : Jvm.MethodName)) ∈ xw_T := xw_in 454 (by decide +kernel) (by decide +kernel)
theorem k_455 : (Cond.code ({ cls := "QuorumStore$Row", name := "clearPlace", desc := "(I)V" } : Jvm.MethodName) prog_6_method_8_code (2 : Nat) (Option.none : Option Jvm.ClassFile.FieldType)) ∈ xw_T := xw_in 455 (by decide +kernel) (by decide +kernel)
theorem k_456 : (Cond.methodLink "QuorumStore$Node" (129 : Nat) ({ cls := "QuorumStore$Lead", name := "lookAt", desc := "(LQuorumStore$Row;I)V" } : Jvm.MethodName)) ∈ xw_T := xw_in 456 (by decide +kernel) (by decide +kernel)
theorem k_457 : (Cond.instanceMethod ({ cls := "QuorumStore$Lead", name := "lookAt", desc := "(LQuorumStore$Row;I)V" } : Jvm.MethodName)) ∈ xw_T := xw_in 457 (by decide +kernel) (by decide +kernel)
theorem k_458 : (Cond.selects "QuorumStore$Lead" ({ cls := "QuorumStore$Lead", name := "lookAt", desc := "(LQuorumStore$Row;I)V" } : Jvm.MethodName) ({ cls := "QuorumStore$Lead", name := "lookAt", desc := "(LQuorumStore$Row;I)V" } : Jvm.MethodName)) ∈ xw_T := xw_in 458 (by decide +kernel) (by decide +kernel)
theorem k_459 : (Cond.code ({ cls := "QuorumStore$Lead", name := "lookAt", desc := "(LQuorumStore$Row;I)V" } : Jvm.MethodName) prog_2_method_3_code (4 : Nat) (Option.none : Option Jvm.ClassFile.FieldType)) ∈ xw_T := xw_in 459 (by decide +kernel) (by decide +kernel)
theorem k_460 : (Cond.methodLink "QuorumStore$Lead" (46 : Nat) ({ cls := "QuorumStore$Row", name := "markAt", desc := "(I)I" } : Jvm.MethodName)) ∈ xw_T := xw_in 460 (by decide +kernel) (by decide +kernel)
theorem k_461 : (Cond.methodLink "QuorumStore$Lead" (50 : Nat) ({ cls := "QuorumStore$Row", name := "valueAt", desc := "(I)LQuorumStore$Value;" } : Jvm.MethodName)) ∈ xw_T := xw_in 461 (by decide +kernel) (by decide +kernel)
theorem k_462 : (Cond.methodLink "QuorumStore$Lead" (54 : Nat) ({ cls := "QuorumStore$Row", name := "put", desc := "(IILQuorumStore$Value;)V" } : Jvm.MethodName)) ∈ xw_T := xw_in 462 (by decide +kernel) (by decide +kernel)
theorem k_463 : (Cond.instanceMethod ({ cls := "QuorumStore$Row", name := "put", desc := "(IILQuorumStore$Value;)V" } : Jvm.MethodName)) ∈ xw_T := xw_in 463 (by decide +kernel) (by decide +kernel)
theorem k_464 : (Cond.selects "QuorumStore$Row" ({ cls := "QuorumStore$Row", name := "put", desc := "(IILQuorumStore$Value;)V" } : Jvm.MethodName) ({ cls := "QuorumStore$Row", name := "put", desc := "(IILQuorumStore$Value;)V" } : Jvm.MethodName)) ∈ xw_T := xw_in 464 (by decide +kernel) (by decide +kernel)
theorem k_465 : (Cond.code ({ cls := "QuorumStore$Row", name := "put", desc := "(IILQuorumStore$Value;)V" } : Jvm.MethodName) prog_6_method_4_code (5 : Nat) (Option.none : Option Jvm.ClassFile.FieldType)) ∈ xw_T := xw_in 465 (by decide +kernel) (by decide +kernel)
theorem k_466 : (Cond.methodLink "QuorumStore$Node" (96 : Nat) ({ cls := "QuorumStore$Node", name := "work", desc := "()V" } : Jvm.MethodName)) ∈ xw_T := xw_in 466 (by decide +kernel) (by decide +kernel)
theorem k_467 : (Cond.instanceMethod ({ cls := "QuorumStore$Node", name := "work", desc := "()V" } : Jvm.MethodName)) ∈ xw_T := xw_in 467 (by decide +kernel) (by decide +kernel)
theorem k_468 : (Cond.selects "QuorumStore$Node" ({ cls := "QuorumStore$Node", name := "work", desc := "()V" } : Jvm.MethodName) ({ cls := "QuorumStore$Node", name := "work", desc := "()V" } : Jvm.MethodName)) ∈ xw_T := xw_in 468 (by decide +kernel) (by decide +kernel)
theorem k_469 : (Cond.code ({ cls := "QuorumStore$Node", name := "work", desc := "()V" } : Jvm.MethodName) prog_5_method_12_code (4 : Nat) (Option.none : Option Jvm.ClassFile.FieldType)) ∈ xw_T := xw_in 469 (by decide +kernel) (by decide +kernel)
theorem k_470 : (Cond.methodLink "QuorumStore$Node" (139 : Nat) ({ cls := "QuorumStore$Node", name := "settle", desc := "()V" } : Jvm.MethodName)) ∈ xw_T := xw_in 470 (by decide +kernel) (by decide +kernel)
theorem k_472 : (Cond.instanceMethod ({ cls := "QuorumStore$Node", name := "settle", desc := "()V" } : Jvm.MethodName)) ∈ xw_T := xw_in 472 (by decide +kernel) (by decide +kernel)
theorem k_473 : (Cond.code ({ cls := "QuorumStore$Node", name := "settle", desc := "()V" } : Jvm.MethodName) prog_5_method_13_code (2 : Nat) (Option.none : Option Jvm.ClassFile.FieldType)) ∈ xw_T := xw_in 473 (by decide +kernel) (by decide +kernel)
theorem k_474 : (Cond.methodLink "QuorumStore$Node" (161 : Nat) ({ cls := "QuorumStore$Row", name := "forgetUpTo", desc := "(I)V" } : Jvm.MethodName)) ∈ xw_T := xw_in 474 (by decide +kernel) (by decide +kernel)
theorem k_475 : (Cond.instanceMethod ({ cls := "QuorumStore$Row", name := "forgetUpTo", desc := "(I)V" } : Jvm.MethodName)) ∈ xw_T := xw_in 475 (by decide +kernel) (by decide +kernel)
theorem k_476 : (Cond.selects "QuorumStore$Row" ({ cls := "QuorumStore$Row", name := "forgetUpTo", desc := "(I)V" } : Jvm.MethodName) ({ cls := "QuorumStore$Row", name := "forgetUpTo", desc := "(I)V" } : Jvm.MethodName)) ∈ xw_T := xw_in 476 (by decide +kernel) (by decide +kernel)
theorem k_477 : (Cond.code ({ cls := "QuorumStore$Row", name := "forgetUpTo", desc := "(I)V" } : Jvm.MethodName) prog_6_method_6_code (3 : Nat) (Option.none : Option Jvm.ClassFile.FieldType)) ∈ xw_T := xw_in 477 (by decide +kernel) (by decide +kernel)
theorem k_478 : (Cond.methodLink "QuorumStore$Node" (142 : Nat) ({ cls := "QuorumStore$Node", name := "openSlot", desc := "()I" } : Jvm.MethodName)) ∈ xw_T := xw_in 478 (by decide +kernel) (by decide +kernel)
theorem k_480 : (Cond.instanceMethod ({ cls := "QuorumStore$Node", name := "openSlot", desc := "()I" } : Jvm.MethodName)) ∈ xw_T := xw_in 480 (by decide +kernel) (by decide +kernel)
theorem k_481 : (Cond.code ({ cls := "QuorumStore$Node", name := "openSlot", desc := "()I" } : Jvm.MethodName) prog_5_method_14_code (2 : Nat) (Option.some Jvm.ClassFile.FieldType.int)) ∈ xw_T := xw_in 481 (by decide +kernel) (by decide +kernel)
theorem k_482 : (Cond.methodLinkNest "QuorumStore$Node" (145 : Nat) ({ cls := "QuorumStore", name := "isMajority", desc := "(II)Z" } : Jvm.MethodName) "QuorumStore") ∈ xw_T := xw_in 482 (by decide +kernel) (by decide +kernel)
theorem k_483 : (Cond.static ({ cls := "QuorumStore", name := "isMajority", desc := "(II)Z" } : Jvm.MethodName)) ∈ xw_T := xw_in 483 (by decide +kernel) (by decide +kernel)
theorem k_484 : (Cond.code ({ cls := "QuorumStore", name := "isMajority", desc := "(II)Z" } : Jvm.MethodName) prog_1_method_20_code (2 : Nat) (Option.some Jvm.ClassFile.FieldType.boolean)) ∈ xw_T := xw_in 484 (by decide +kernel) (by decide +kernel)
theorem k_485 : (Cond.methodLink "QuorumStore" (246 : Nat) ({ cls := "java/lang/Integer", name := "bitCount", desc := "(I)I" } : Jvm.MethodName)) ∈ xw_T := xw_in 485 (by decide +kernel) (by decide +kernel)
theorem k_486 : (Cond.static ({ cls := "java/lang/Integer", name := "bitCount", desc := "(I)I" } : Jvm.MethodName)) ∈ xw_T := xw_in 486 (by decide +kernel) (by decide +kernel)
theorem k_487 : (Cond.code ({ cls := "java/lang/Integer", name := "bitCount", desc := "(I)I" } : Jvm.MethodName) prog_19_method_49_code (1 : Nat) (Option.some Jvm.ClassFile.FieldType.int)) ∈ xw_T := xw_in 487 (by decide +kernel) (by decide +kernel)
theorem k_488 : (Cond.constant "java/lang/Integer" (265 : Nat) (1431655765 : Int32)) ∈ xw_T := xw_in 488 (by decide +kernel) (by decide +kernel)
theorem k_489 : (Cond.constant "java/lang/Integer" (266 : Nat) (858993459 : Int32)) ∈ xw_T := xw_in 489 (by decide +kernel) (by decide +kernel)
theorem k_490 : (Cond.constant "java/lang/Integer" (267 : Nat) (252645135 : Int32)) ∈ xw_T := xw_in 490 (by decide +kernel) (by decide +kernel)
theorem k_491 : (Cond.methodLink "QuorumStore$Node" (148 : Nat) ({ cls := "QuorumStore$Lead", name := "valueFor", desc := "(I)LQuorumStore$Value;" } : Jvm.MethodName)) ∈ xw_T := xw_in 491 (by decide +kernel) (by decide +kernel)
theorem k_492 : (Cond.instanceMethod ({ cls := "QuorumStore$Lead", name := "valueFor", desc := "(I)LQuorumStore$Value;" } : Jvm.MethodName)) ∈ xw_T := xw_in 492 (by decide +kernel) (by decide +kernel)
theorem k_493 : (Cond.selects "QuorumStore$Lead" ({ cls := "QuorumStore$Lead", name := "valueFor", desc := "(I)LQuorumStore$Value;" } : Jvm.MethodName) ({ cls := "QuorumStore$Lead", name := "valueFor", desc := "(I)LQuorumStore$Value;" } : Jvm.MethodName)) ∈ xw_T := xw_in 493 (by decide +kernel) (by decide +kernel)
theorem k_494 : (Cond.code ({ cls := "QuorumStore$Lead", name := "valueFor", desc := "(I)LQuorumStore$Value;" } : Jvm.MethodName) prog_2_method_4_code (3 : Nat) (Option.some (Jvm.ClassFile.FieldType.object "QuorumStore$Value"))) ∈ xw_T := xw_in 494 (by decide +kernel) (by decide +kernel)
theorem k_495 : (Cond.methodLink "QuorumStore$Lead" (58 : Nat) ({ cls := "QuorumStore$Row", name := "lastSlot", desc := "()I" } : Jvm.MethodName)) ∈ xw_T := xw_in 495 (by decide +kernel) (by decide +kernel)
theorem k_496 : (Cond.instanceMethod ({ cls := "QuorumStore$Row", name := "lastSlot", desc := "()I" } : Jvm.MethodName)) ∈ xw_T := xw_in 496 (by decide +kernel) (by decide +kernel)
theorem k_497 : (Cond.selects "QuorumStore$Row" ({ cls := "QuorumStore$Row", name := "lastSlot", desc := "()I" } : Jvm.MethodName) ({ cls := "QuorumStore$Row", name := "lastSlot", desc := "()I" } : Jvm.MethodName)) ∈ xw_T := xw_in 497 (by decide +kernel) (by decide +kernel)
theorem k_498 : (Cond.code ({ cls := "QuorumStore$Row", name := "lastSlot", desc := "()I" } : Jvm.MethodName) prog_6_method_10_code (3 : Nat) (Option.some Jvm.ClassFile.FieldType.int)) ∈ xw_T := xw_in 498 (by decide +kernel) (by decide +kernel)
theorem k_499 : (Cond.methodLink "QuorumStore$Row" (26 : Nat) ({ cls := "java/lang/Math", name := "max", desc := "(II)I" } : Jvm.MethodName)) ∈ xw_T := xw_in 499 (by decide +kernel) (by decide +kernel)
theorem k_500 : (Cond.methodLink "QuorumStore$Lead" (62 : Nat) ({ cls := "QuorumStore$Lead", name := "dequeue", desc := "()LQuorumStore$Value;" } : Jvm.MethodName)) ∈ xw_T := xw_in 500 (by decide +kernel) (by decide +kernel)
theorem k_502 : (Cond.instanceMethod ({ cls := "QuorumStore$Lead", name := "dequeue", desc := "()LQuorumStore$Value;" } : Jvm.MethodName)) ∈ xw_T := xw_in 502 (by decide +kernel) (by decide +kernel)
theorem k_503 : (Cond.code ({ cls := "QuorumStore$Lead", name := "dequeue", desc := "()LQuorumStore$Value;" } : Jvm.MethodName) prog_2_method_7_code (3 : Nat) (Option.some (Jvm.ClassFile.FieldType.object "QuorumStore$Value"))) ∈ xw_T := xw_in 503 (by decide +kernel) (by decide +kernel)
theorem k_504 : (Cond.methodLink "QuorumStore$Node" (151 : Nat) ({ cls := "QuorumStore$Node", name := "propose", desc := "(ILQuorumStore$Value;)V" } : Jvm.MethodName)) ∈ xw_T := xw_in 504 (by decide +kernel) (by decide +kernel)
theorem k_506 : (Cond.instanceMethod ({ cls := "QuorumStore$Node", name := "propose", desc := "(ILQuorumStore$Value;)V" } : Jvm.MethodName)) ∈ xw_T := xw_in 506 (by decide +kernel) (by decide +kernel)
theorem k_507 : (Cond.code ({ cls := "QuorumStore$Node", name := "propose", desc := "(ILQuorumStore$Value;)V" } : Jvm.MethodName) prog_5_method_15_code (5 : Nat) (Option.none : Option Jvm.ClassFile.FieldType)) ∈ xw_T := xw_in 507 (by decide +kernel) (by decide +kernel)
theorem k_508 : (Cond.methodLink "QuorumStore$Node" (167 : Nat) ({ cls := "QuorumStore$Row", name := "put", desc := "(IILQuorumStore$Value;)V" } : Jvm.MethodName)) ∈ xw_T := xw_in 508 (by decide +kernel) (by decide +kernel)
theorem k_509 : (Cond.methodLink "QuorumStore$Node" (155 : Nat) ({ cls := "QuorumStore$Node", name := "chooseIfAcknowledged", desc := "(I)V" } : Jvm.MethodName)) ∈ xw_T := xw_in 509 (by decide +kernel) (by decide +kernel)
theorem k_511 : (Cond.instanceMethod ({ cls := "QuorumStore$Node", name := "chooseIfAcknowledged", desc := "(I)V" } : Jvm.MethodName)) ∈ xw_T := xw_in 511 (by decide +kernel) (by decide +kernel)
theorem k_512 : (Cond.code ({ cls := "QuorumStore$Node", name := "chooseIfAcknowledged", desc := "(I)V" } : Jvm.MethodName) prog_5_method_16_code (3 : Nat) (Option.none : Option Jvm.ClassFile.FieldType)) ∈ xw_T := xw_in 512 (by decide +kernel) (by decide +kernel)
theorem k_513 : (Cond.methodLink "QuorumStore$Node" (171 : Nat) ({ cls := "QuorumStore$Node", name := "learn", desc := "(ILQuorumStore$Value;)V" } : Jvm.MethodName)) ∈ xw_T := xw_in 513 (by decide +kernel) (by decide +kernel)
theorem k_515 : (Cond.instanceMethod ({ cls := "QuorumStore$Node", name := "learn", desc := "(ILQuorumStore$Value;)V" } : Jvm.MethodName)) ∈ xw_T := xw_in 515 (by decide +kernel) (by decide +kernel)
theorem k_516 : (Cond.code ({ cls := "QuorumStore$Node", name := "learn", desc := "(ILQuorumStore$Value;)V" } : Jvm.MethodName) prog_5_method_17_code (3 : Nat) (Option.none : Option Jvm.ClassFile.FieldType)) ∈ xw_T := xw_in 516 (by decide +kernel) (by decide +kernel)
theorem k_517 : (Cond.methodLink "QuorumStore$Node" (174 : Nat) ({ cls := "QuorumStore$Row", name := "remove", desc := "(I)V" } : Jvm.MethodName)) ∈ xw_T := xw_in 517 (by decide +kernel) (by decide +kernel)
theorem k_518 : (Cond.instanceMethod ({ cls := "QuorumStore$Row", name := "remove", desc := "(I)V" } : Jvm.MethodName)) ∈ xw_T := xw_in 518 (by decide +kernel) (by decide +kernel)
theorem k_519 : (Cond.selects "QuorumStore$Row" ({ cls := "QuorumStore$Row", name := "remove", desc := "(I)V" } : Jvm.MethodName) ({ cls := "QuorumStore$Row", name := "remove", desc := "(I)V" } : Jvm.MethodName)) ∈ xw_T := xw_in 519 (by decide +kernel) (by decide +kernel)
theorem k_520 : (Cond.code ({ cls := "QuorumStore$Row", name := "remove", desc := "(I)V" } : Jvm.MethodName) prog_6_method_5_code (3 : Nat) (Option.none : Option Jvm.ClassFile.FieldType)) ∈ xw_T := xw_in 520 (by decide +kernel) (by decide +kernel)
theorem k_521 : (Cond.methodLink "QuorumStore$Node" (158 : Nat) ({ cls := "QuorumStore$Node", name := "applyKnown", desc := "()V" } : Jvm.MethodName)) ∈ xw_T := xw_in 521 (by decide +kernel) (by decide +kernel)
theorem k_523 : (Cond.instanceMethod ({ cls := "QuorumStore$Node", name := "applyKnown", desc := "()V" } : Jvm.MethodName)) ∈ xw_T := xw_in 523 (by decide +kernel) (by decide +kernel)
theorem k_524 : (Cond.code ({ cls := "QuorumStore$Node", name := "applyKnown", desc := "()V" } : Jvm.MethodName) prog_5_method_18_code (3 : Nat) (Option.none : Option Jvm.ClassFile.FieldType)) ∈ xw_T := xw_in 524 (by decide +kernel) (by decide +kernel)
theorem k_525 : (Cond.methodLink "QuorumStore$Node" (177 : Nat) ({ cls := "QuorumStore$State", name := "apply", desc := "(LQuorumStore$Value;I)V" } : Jvm.MethodName)) ∈ xw_T := xw_in 525 (by decide +kernel) (by decide +kernel)
theorem k_526 : (Cond.instanceMethod ({ cls := "QuorumStore$State", name := "apply", desc := "(LQuorumStore$Value;I)V" } : Jvm.MethodName)) ∈ xw_T := xw_in 526 (by decide +kernel) (by decide +kernel)
theorem k_527 : (Cond.selects "QuorumStore$State" ({ cls := "QuorumStore$State", name := "apply", desc := "(LQuorumStore$Value;I)V" } : Jvm.MethodName) ({ cls := "QuorumStore$State", name := "apply", desc := "(LQuorumStore$Value;I)V" } : Jvm.MethodName)) ∈ xw_T := xw_in 527 (by decide +kernel) (by decide +kernel)
theorem k_528 : (Cond.code ({ cls := "QuorumStore$State", name := "apply", desc := "(LQuorumStore$Value;I)V" } : Jvm.MethodName) prog_7_method_5_code (3 : Nat) (Option.none : Option Jvm.ClassFile.FieldType)) ∈ xw_T := xw_in 528 (by decide +kernel) (by decide +kernel)
theorem k_529 : (Cond.methodLink "QuorumStore$State" (44 : Nat) ({ cls := "QuorumStore$State", name := "forgetConfigsBefore", desc := "(I)V" } : Jvm.MethodName)) ∈ xw_T := xw_in 529 (by decide +kernel) (by decide +kernel)
theorem k_531 : (Cond.instanceMethod ({ cls := "QuorumStore$State", name := "forgetConfigsBefore", desc := "(I)V" } : Jvm.MethodName)) ∈ xw_T := xw_in 531 (by decide +kernel) (by decide +kernel)
theorem k_532 : (Cond.code ({ cls := "QuorumStore$State", name := "forgetConfigsBefore", desc := "(I)V" } : Jvm.MethodName) prog_7_method_6_code (4 : Nat) (Option.none : Option Jvm.ClassFile.FieldType)) ∈ xw_T := xw_in 532 (by decide +kernel) (by decide +kernel)
theorem k_533 : (Cond.methodLink "QuorumStore$State" (62 : Nat) ({ cls := "QuorumStore$State", name := "changeMembers", desc := "(II)J" } : Jvm.MethodName)) ∈ xw_T := xw_in 533 (by decide +kernel) (by decide +kernel)
theorem k_535 : (Cond.instanceMethod ({ cls := "QuorumStore$State", name := "changeMembers", desc := "(II)J" } : Jvm.MethodName)) ∈ xw_T := xw_in 535 (by decide +kernel) (by decide +kernel)
theorem k_536 : (Cond.code ({ cls := "QuorumStore$State", name := "changeMembers", desc := "(II)J" } : Jvm.MethodName) prog_7_method_7_code (3 : Nat) (Option.some Jvm.ClassFile.FieldType.long)) ∈ xw_T := xw_in 536 (by decide +kernel) (by decide +kernel)
theorem k_537 : (Cond.methodLink "QuorumStore$State" (66 : Nat) ({ cls := "QuorumStore$State", name := "changeNumber", desc := "(LQuorumStore$Value;)J" } : Jvm.MethodName)) ∈ xw_T := xw_in 537 (by decide +kernel) (by decide +kernel)
theorem k_539 : (Cond.instanceMethod ({ cls := "QuorumStore$State", name := "changeNumber", desc := "(LQuorumStore$Value;)J" } : Jvm.MethodName)) ∈ xw_T := xw_in 539 (by decide +kernel) (by decide +kernel)
theorem k_540 : (Cond.code ({ cls := "QuorumStore$State", name := "changeNumber", desc := "(LQuorumStore$Value;)J" } : Jvm.MethodName) prog_7_method_8_code (5 : Nat) (Option.some Jvm.ClassFile.FieldType.long)) ∈ xw_T := xw_in 540 (by decide +kernel) (by decide +kernel)
theorem k_541 : (Cond.methodLink "QuorumStoreLaw" (80 : Nat) ({ cls := "QuorumStoreLaw", name := "deliver", desc := "(LQuorumStore;I[J)I" } : Jvm.MethodName)) ∈ xw_T := xw_in 541 (by decide +kernel) (by decide +kernel)
theorem k_542 : (Cond.static ({ cls := "QuorumStoreLaw", name := "deliver", desc := "(LQuorumStore;I[J)I" } : Jvm.MethodName)) ∈ xw_T := xw_in 542 (by decide +kernel) (by decide +kernel)
theorem k_544 : (Cond.classLink "QuorumStoreLaw" (18 : Nat) "java/util/NoSuchElementException") ∈ xw_T := xw_in 544 (by decide +kernel) (by decide +kernel)
theorem k_545 : (Cond.methodLink "QuorumStoreLaw" (15 : Nat) ({ cls := "QuorumStore", name := "deliver", desc := "(I)I" } : Jvm.MethodName)) ∈ xw_T := xw_in 545 (by decide +kernel) (by decide +kernel)
theorem k_546 : (Cond.instanceMethod ({ cls := "QuorumStore", name := "deliver", desc := "(I)I" } : Jvm.MethodName)) ∈ xw_T := xw_in 546 (by decide +kernel) (by decide +kernel)
theorem k_547 : (Cond.selects "QuorumStore" ({ cls := "QuorumStore", name := "deliver", desc := "(I)I" } : Jvm.MethodName) ({ cls := "QuorumStore", name := "deliver", desc := "(I)I" } : Jvm.MethodName)) ∈ xw_T := xw_in 547 (by decide +kernel) (by decide +kernel)
theorem k_548 : (Cond.code ({ cls := "QuorumStore", name := "deliver", desc := "(I)I" } : Jvm.MethodName) prog_1_method_3_code (4 : Nat) (Option.some Jvm.ClassFile.FieldType.int)) ∈ xw_T := xw_in 548 (by decide +kernel) (by decide +kernel)
theorem k_549 : (Cond.methodLink "QuorumStore" (39 : Nat) ({ cls := "QuorumStore", name := "messageAt", desc := "(I)LQuorumStore$Message;" } : Jvm.MethodName)) ∈ xw_T := xw_in 549 (by decide +kernel) (by decide +kernel)
theorem k_551 : (Cond.instanceMethod ({ cls := "QuorumStore", name := "messageAt", desc := "(I)LQuorumStore$Message;" } : Jvm.MethodName)) ∈ xw_T := xw_in 551 (by decide +kernel) (by decide +kernel)
theorem k_552 : (Cond.code ({ cls := "QuorumStore", name := "messageAt", desc := "(I)LQuorumStore$Message;" } : Jvm.MethodName) prog_1_method_17_code (2 : Nat) (Option.some (Jvm.ClassFile.FieldType.object "QuorumStore$Message"))) ∈ xw_T := xw_in 552 (by decide +kernel) (by decide +kernel)
theorem k_553 : (Cond.classLink "QuorumStore" (151 : Nat) "java/util/NoSuchElementException") ∈ xw_T := xw_in 553 (by decide +kernel) (by decide +kernel)
theorem k_554 : (Cond.instantiable "java/util/NoSuchElementException" (6 : Nat)) ∈ xw_T := xw_in 554 (by decide +kernel) (by decide +kernel)
theorem k_555 : (Cond.castable "java/util/NoSuchElementException" "java/util/NoSuchElementException") ∈ xw_T := xw_in 555 (by decide +kernel) (by decide +kernel)
theorem k_556 : (Cond.selects "java/util/NoSuchElementException" ({ cls := "java/lang/Throwable", name := "fillInStackTrace", desc := "(I)Ljava/lang/Throwable;" } : Jvm.MethodName) ({ cls := "java/lang/Throwable", name := "fillInStackTrace", desc := "(I)Ljava/lang/Throwable;" } : Jvm.MethodName)) ∈ xw_T := xw_in 556 (by decide +kernel) (by decide +kernel)
theorem k_563 : (Cond.methodLink "QuorumStore" (155 : Nat) ({ cls := "java/util/NoSuchElementException", name := "<init>", desc := "(Ljava/lang/String;)V" } : Jvm.MethodName)) ∈ xw_T := xw_in 563 (by decide +kernel) (by decide +kernel)
theorem k_564 : (Cond.instanceMethod ({ cls := "java/util/NoSuchElementException", name := "<init>", desc := "(Ljava/lang/String;)V" } : Jvm.MethodName)) ∈ xw_T := xw_in 564 (by decide +kernel) (by decide +kernel)
theorem k_566 : (Cond.methodLink "java/util/NoSuchElementException" (13 : Nat) ({ cls := "java/lang/RuntimeException", name := "<init>", desc := "(Ljava/lang/String;)V" } : Jvm.MethodName)) ∈ xw_T := xw_in 566 (by decide +kernel) (by decide +kernel)
theorem k_569 : (Cond.methodLink "QuorumStore" (43 : Nat) ({ cls := "QuorumStore$Network", name := "removeAt", desc := "(I)V" } : Jvm.MethodName)) ∈ xw_T := xw_in 569 (by decide +kernel) (by decide +kernel)
theorem k_570 : (Cond.instanceMethod ({ cls := "QuorumStore$Network", name := "removeAt", desc := "(I)V" } : Jvm.MethodName)) ∈ xw_T := xw_in 570 (by decide +kernel) (by decide +kernel)
theorem k_571 : (Cond.selects "QuorumStore$Network" ({ cls := "QuorumStore$Network", name := "removeAt", desc := "(I)V" } : Jvm.MethodName) ({ cls := "QuorumStore$Network", name := "removeAt", desc := "(I)V" } : Jvm.MethodName)) ∈ xw_T := xw_in 571 (by decide +kernel) (by decide +kernel)
theorem k_572 : (Cond.code ({ cls := "QuorumStore$Network", name := "removeAt", desc := "(I)V" } : Jvm.MethodName) prog_4_method_3_code (3 : Nat) (Option.none : Option Jvm.ClassFile.FieldType)) ∈ xw_T := xw_in 572 (by decide +kernel) (by decide +kernel)
theorem k_573 : (Cond.methodLink "QuorumStore" (59 : Nat) ({ cls := "QuorumStore$Node", name := "receive", desc := "(LQuorumStore$Message;)V" } : Jvm.MethodName)) ∈ xw_T := xw_in 573 (by decide +kernel) (by decide +kernel)
theorem k_574 : (Cond.instanceMethod ({ cls := "QuorumStore$Node", name := "receive", desc := "(LQuorumStore$Message;)V" } : Jvm.MethodName)) ∈ xw_T := xw_in 574 (by decide +kernel) (by decide +kernel)
theorem k_575 : (Cond.selects "QuorumStore$Node" ({ cls := "QuorumStore$Node", name := "receive", desc := "(LQuorumStore$Message;)V" } : Jvm.MethodName) ({ cls := "QuorumStore$Node", name := "receive", desc := "(LQuorumStore$Message;)V" } : Jvm.MethodName)) ∈ xw_T := xw_in 575 (by decide +kernel) (by decide +kernel)
theorem k_576 : (Cond.code ({ cls := "QuorumStore$Node", name := "receive", desc := "(LQuorumStore$Message;)V" } : Jvm.MethodName) prog_5_method_21_code (3 : Nat) (Option.none : Option Jvm.ClassFile.FieldType)) ∈ xw_T := xw_in 576 (by decide +kernel) (by decide +kernel)
theorem k_577 : (Cond.methodLink "QuorumStore$Node" (204 : Nat) ({ cls := "QuorumStore$Node", name := "onPrepare", desc := "(LQuorumStore$Message;)V" } : Jvm.MethodName)) ∈ xw_T := xw_in 577 (by decide +kernel) (by decide +kernel)
theorem k_579 : (Cond.instanceMethod ({ cls := "QuorumStore$Node", name := "onPrepare", desc := "(LQuorumStore$Message;)V" } : Jvm.MethodName)) ∈ xw_T := xw_in 579 (by decide +kernel) (by decide +kernel)
theorem k_580 : (Cond.code ({ cls := "QuorumStore$Node", name := "onPrepare", desc := "(LQuorumStore$Message;)V" } : Jvm.MethodName) prog_5_method_26_code (3 : Nat) (Option.none : Option Jvm.ClassFile.FieldType)) ∈ xw_T := xw_in 580 (by decide +kernel) (by decide +kernel)
theorem k_581 : (Cond.methodLink "QuorumStore$Node" (247 : Nat) ({ cls := "QuorumStore$Node", name := "rejects", desc := "(LQuorumStore$Message;)Z" } : Jvm.MethodName)) ∈ xw_T := xw_in 581 (by decide +kernel) (by decide +kernel)
theorem k_583 : (Cond.instanceMethod ({ cls := "QuorumStore$Node", name := "rejects", desc := "(LQuorumStore$Message;)Z" } : Jvm.MethodName)) ∈ xw_T := xw_in 583 (by decide +kernel) (by decide +kernel)
theorem k_584 : (Cond.code ({ cls := "QuorumStore$Node", name := "rejects", desc := "(LQuorumStore$Message;)Z" } : Jvm.MethodName) prog_5_method_22_code (2 : Nat) (Option.some Jvm.ClassFile.FieldType.boolean)) ∈ xw_T := xw_in 584 (by decide +kernel) (by decide +kernel)
theorem k_585 : (Cond.methodLink "QuorumStore$Node" (250 : Nat) ({ cls := "QuorumStore$Node", name := "promise", desc := "(I)V" } : Jvm.MethodName)) ∈ xw_T := xw_in 585 (by decide +kernel) (by decide +kernel)
theorem k_587 : (Cond.instanceMethod ({ cls := "QuorumStore$Node", name := "promise", desc := "(I)V" } : Jvm.MethodName)) ∈ xw_T := xw_in 587 (by decide +kernel) (by decide +kernel)
theorem k_588 : (Cond.code ({ cls := "QuorumStore$Node", name := "promise", desc := "(I)V" } : Jvm.MethodName) prog_5_method_23_code (2 : Nat) (Option.none : Option Jvm.ClassFile.FieldType)) ∈ xw_T := xw_in 588 (by decide +kernel) (by decide +kernel)
theorem k_589 : (Cond.methodLink "QuorumStore$Node" (241 : Nat) ({ cls := "QuorumStore$Node", name := "stepDownBefore", desc := "(I)V" } : Jvm.MethodName)) ∈ xw_T := xw_in 589 (by decide +kernel) (by decide +kernel)
theorem k_591 : (Cond.instanceMethod ({ cls := "QuorumStore$Node", name := "stepDownBefore", desc := "(I)V" } : Jvm.MethodName)) ∈ xw_T := xw_in 591 (by decide +kernel) (by decide +kernel)
theorem k_592 : (Cond.code ({ cls := "QuorumStore$Node", name := "stepDownBefore", desc := "(I)V" } : Jvm.MethodName) prog_5_method_24_code (2 : Nat) (Option.none : Option Jvm.ClassFile.FieldType)) ∈ xw_T := xw_in 592 (by decide +kernel) (by decide +kernel)
theorem k_593 : (Cond.methodLink "QuorumStore$Node" (244 : Nat) ({ cls := "QuorumStore$Node", name := "stepDown", desc := "()V" } : Jvm.MethodName)) ∈ xw_T := xw_in 593 (by decide +kernel) (by decide +kernel)
theorem k_595 : (Cond.instanceMethod ({ cls := "QuorumStore$Node", name := "stepDown", desc := "()V" } : Jvm.MethodName)) ∈ xw_T := xw_in 595 (by decide +kernel) (by decide +kernel)
theorem k_596 : (Cond.code ({ cls := "QuorumStore$Node", name := "stepDown", desc := "()V" } : Jvm.MethodName) prog_5_method_5_code (1 : Nat) (Option.none : Option Jvm.ClassFile.FieldType)) ∈ xw_T := xw_in 596 (by decide +kernel) (by decide +kernel)
theorem k_597 : (Cond.classLink "QuorumStore$Node" (200 : Nat) "QuorumStore$Message") ∈ xw_T := xw_in 597 (by decide +kernel) (by decide +kernel)
theorem k_598 : (Cond.methodLink "QuorumStore$Node" (253 : Nat) ({ cls := "QuorumStore$Message", name := "<init>", desc := "(IIIIILQuorumStore$Value;)V" } : Jvm.MethodName)) ∈ xw_T := xw_in 598 (by decide +kernel) (by decide +kernel)
theorem k_599 : (Cond.methodLink "QuorumStore$Node" (255 : Nat) ({ cls := "QuorumStore$Row", name := "twin", desc := "()LQuorumStore$Row;" } : Jvm.MethodName)) ∈ xw_T := xw_in 599 (by decide +kernel) (by decide +kernel)
theorem k_600 : (Cond.instanceMethod ({ cls := "QuorumStore$Row", name := "twin", desc := "()LQuorumStore$Row;" } : Jvm.MethodName)) ∈ xw_T := xw_in 600 (by decide +kernel) (by decide +kernel)
theorem k_601 : (Cond.selects "QuorumStore$Row" ({ cls := "QuorumStore$Row", name := "twin", desc := "()LQuorumStore$Row;" } : Jvm.MethodName) ({ cls := "QuorumStore$Row", name := "twin", desc := "()LQuorumStore$Row;" } : Jvm.MethodName)) ∈ xw_T := xw_in 601 (by decide +kernel) (by decide +kernel)
theorem k_602 : (Cond.code ({ cls := "QuorumStore$Row", name := "twin", desc := "()LQuorumStore$Row;" } : Jvm.MethodName) prog_6_method_11_code (3 : Nat) (Option.some (Jvm.ClassFile.FieldType.object "QuorumStore$Row"))) ∈ xw_T := xw_in 602 (by decide +kernel) (by decide +kernel)
theorem k_603 : (Cond.classLink "QuorumStore$Row" (8 : Nat) "QuorumStore$Row") ∈ xw_T := xw_in 603 (by decide +kernel) (by decide +kernel)
theorem k_604 : (Cond.methodLink "QuorumStore$Row" (32 : Nat) ({ cls := "QuorumStore$Row", name := "<init>", desc := "(I)V" } : Jvm.MethodName)) ∈ xw_T := xw_in 604 (by decide +kernel) (by decide +kernel)
theorem k_605 : (Cond.methodLink "QuorumStore$Node" (262 : Nat) ({ cls := "QuorumStore$Network", name := "send", desc := "(LQuorumStore$Message;)V" } : Jvm.MethodName)) ∈ xw_T := xw_in 605 (by decide +kernel) (by decide +kernel)
theorem k_606 : (Cond.methodLink "QuorumStore$Node" (208 : Nat) ({ cls := "QuorumStore$Node", name := "onPromise", desc := "(LQuorumStore$Message;)Z" } : Jvm.MethodName)) ∈ xw_T := xw_in 606 (by decide +kernel) (by decide +kernel)
theorem k_608 : (Cond.instanceMethod ({ cls := "QuorumStore$Node", name := "onPromise", desc := "(LQuorumStore$Message;)Z" } : Jvm.MethodName)) ∈ xw_T := xw_in 608 (by decide +kernel) (by decide +kernel)
theorem k_609 : (Cond.code ({ cls := "QuorumStore$Node", name := "onPromise", desc := "(LQuorumStore$Message;)Z" } : Jvm.MethodName) prog_5_method_27_code (2 : Nat) (Option.some Jvm.ClassFile.FieldType.boolean)) ∈ xw_T := xw_in 609 (by decide +kernel) (by decide +kernel)
theorem k_610 : (Cond.methodLink "QuorumStore$Node" (265 : Nat) ({ cls := "QuorumStore$Node", name := "want", desc := "(I)V" } : Jvm.MethodName)) ∈ xw_T := xw_in 610 (by decide +kernel) (by decide +kernel)
theorem k_612 : (Cond.instanceMethod ({ cls := "QuorumStore$Node", name := "want", desc := "(I)V" } : Jvm.MethodName)) ∈ xw_T := xw_in 612 (by decide +kernel) (by decide +kernel)
theorem k_613 : (Cond.code ({ cls := "QuorumStore$Node", name := "want", desc := "(I)V" } : Jvm.MethodName) prog_5_method_8_code (2 : Nat) (Option.none : Option Jvm.ClassFile.FieldType)) ∈ xw_T := xw_in 613 (by decide +kernel) (by decide +kernel)
theorem k_614 : (Cond.methodLink "QuorumStore$Node" (212 : Nat) ({ cls := "QuorumStore$Node", name := "onReject", desc := "(LQuorumStore$Message;)V" } : Jvm.MethodName)) ∈ xw_T := xw_in 614 (by decide +kernel) (by decide +kernel)
theorem k_616 : (Cond.instanceMethod ({ cls := "QuorumStore$Node", name := "onReject", desc := "(LQuorumStore$Message;)V" } : Jvm.MethodName)) ∈ xw_T := xw_in 616 (by decide +kernel) (by decide +kernel)
theorem k_617 : (Cond.code ({ cls := "QuorumStore$Node", name := "onReject", desc := "(LQuorumStore$Message;)V" } : Jvm.MethodName) prog_5_method_28_code (2 : Nat) (Option.none : Option Jvm.ClassFile.FieldType)) ∈ xw_T := xw_in 617 (by decide +kernel) (by decide +kernel)
theorem k_618 : (Cond.methodLink "QuorumStore$Node" (215 : Nat) ({ cls := "QuorumStore$Node", name := "onAccept", desc := "(LQuorumStore$Message;)V" } : Jvm.MethodName)) ∈ xw_T := xw_in 618 (by decide +kernel) (by decide +kernel)
theorem k_620 : (Cond.instanceMethod ({ cls := "QuorumStore$Node", name := "onAccept", desc := "(LQuorumStore$Message;)V" } : Jvm.MethodName)) ∈ xw_T := xw_in 620 (by decide +kernel) (by decide +kernel)
theorem k_621 : (Cond.code ({ cls := "QuorumStore$Node", name := "onAccept", desc := "(LQuorumStore$Message;)V" } : Jvm.MethodName) prog_5_method_29_code (2 : Nat) (Option.none : Option Jvm.ClassFile.FieldType)) ∈ xw_T := xw_in 621 (by decide +kernel) (by decide +kernel)
theorem k_622 : (Cond.methodLink "QuorumStore$Node" (268 : Nat) ({ cls := "QuorumStore$Node", name := "follow", desc := "(I)V" } : Jvm.MethodName)) ∈ xw_T := xw_in 622 (by decide +kernel) (by decide +kernel)
theorem k_624 : (Cond.instanceMethod ({ cls := "QuorumStore$Node", name := "follow", desc := "(I)V" } : Jvm.MethodName)) ∈ xw_T := xw_in 624 (by decide +kernel) (by decide +kernel)
theorem k_625 : (Cond.code ({ cls := "QuorumStore$Node", name := "follow", desc := "(I)V" } : Jvm.MethodName) prog_5_method_25_code (2 : Nat) (Option.none : Option Jvm.ClassFile.FieldType)) ∈ xw_T := xw_in 625 (by decide +kernel) (by decide +kernel)
theorem k_626 : (Cond.methodLink "QuorumStore$Node" (218 : Nat) ({ cls := "QuorumStore$Node", name := "onAccepted", desc := "(LQuorumStore$Message;)V" } : Jvm.MethodName)) ∈ xw_T := xw_in 626 (by decide +kernel) (by decide +kernel)
theorem k_628 : (Cond.instanceMethod ({ cls := "QuorumStore$Node", name := "onAccepted", desc := "(LQuorumStore$Message;)V" } : Jvm.MethodName)) ∈ xw_T := xw_in 628 (by decide +kernel) (by decide +kernel)
theorem k_629 : (Cond.code ({ cls := "QuorumStore$Node", name := "onAccepted", desc := "(LQuorumStore$Message;)V" } : Jvm.MethodName) prog_5_method_30_code (4 : Nat) (Option.none : Option Jvm.ClassFile.FieldType)) ∈ xw_T := xw_in 629 (by decide +kernel) (by decide +kernel)
theorem k_630 : (Cond.methodLink "QuorumStore$Node" (221 : Nat) ({ cls := "QuorumStore$Node", name := "onHeart", desc := "(LQuorumStore$Message;)V" } : Jvm.MethodName)) ∈ xw_T := xw_in 630 (by decide +kernel) (by decide +kernel)
theorem k_632 : (Cond.instanceMethod ({ cls := "QuorumStore$Node", name := "onHeart", desc := "(LQuorumStore$Message;)V" } : Jvm.MethodName)) ∈ xw_T := xw_in 632 (by decide +kernel) (by decide +kernel)
theorem k_633 : (Cond.code ({ cls := "QuorumStore$Node", name := "onHeart", desc := "(LQuorumStore$Message;)V" } : Jvm.MethodName) prog_5_method_31_code (2 : Nat) (Option.none : Option Jvm.ClassFile.FieldType)) ∈ xw_T := xw_in 633 (by decide +kernel) (by decide +kernel)
theorem k_634 : (Cond.methodLink "QuorumStore$Node" (224 : Nat) ({ cls := "QuorumStore$Node", name := "onWant", desc := "(LQuorumStore$Message;)V" } : Jvm.MethodName)) ∈ xw_T := xw_in 634 (by decide +kernel) (by decide +kernel)
theorem k_636 : (Cond.instanceMethod ({ cls := "QuorumStore$Node", name := "onWant", desc := "(LQuorumStore$Message;)V" } : Jvm.MethodName)) ∈ xw_T := xw_in 636 (by decide +kernel) (by decide +kernel)
theorem k_637 : (Cond.code ({ cls := "QuorumStore$Node", name := "onWant", desc := "(LQuorumStore$Message;)V" } : Jvm.MethodName) prog_5_method_32_code (4 : Nat) (Option.none : Option Jvm.ClassFile.FieldType)) ∈ xw_T := xw_in 637 (by decide +kernel) (by decide +kernel)
theorem k_638 : (Cond.methodLink "QuorumStore$Node" (272 : Nat) ({ cls := "QuorumStore$State", name := "takeOver", desc := "(LQuorumStore$State;)V" } : Jvm.MethodName)) ∈ xw_T := xw_in 638 (by decide +kernel) (by decide +kernel)
theorem k_639 : (Cond.instanceMethod ({ cls := "QuorumStore$State", name := "takeOver", desc := "(LQuorumStore$State;)V" } : Jvm.MethodName)) ∈ xw_T := xw_in 639 (by decide +kernel) (by decide +kernel)
theorem k_640 : (Cond.selects "QuorumStore$State" ({ cls := "QuorumStore$State", name := "takeOver", desc := "(LQuorumStore$State;)V" } : Jvm.MethodName) ({ cls := "QuorumStore$State", name := "takeOver", desc := "(LQuorumStore$State;)V" } : Jvm.MethodName)) ∈ xw_T := xw_in 640 (by decide +kernel) (by decide +kernel)
theorem k_641 : (Cond.code ({ cls := "QuorumStore$State", name := "takeOver", desc := "(LQuorumStore$State;)V" } : Jvm.MethodName) prog_7_method_2_code (2 : Nat) (Option.none : Option Jvm.ClassFile.FieldType)) ∈ xw_T := xw_in 641 (by decide +kernel) (by decide +kernel)
theorem k_642 : (Cond.methodLink "QuorumStore$State" (34 : Nat) ({ cls := "java/lang/System", name := "arraycopy", desc := "(Ljava/lang/Object;ILjava/lang/Object;II)V" } : Jvm.MethodName)) ∈ xw_T := xw_in 642 (by decide +kernel) (by decide +kernel)
theorem k_643 : (Cond.static ({ cls := "java/lang/System", name := "arraycopy", desc := "(Ljava/lang/Object;ILjava/lang/Object;II)V" } : Jvm.MethodName)) ∈ xw_T := xw_in 643 (by decide +kernel) (by decide +kernel)
theorem k_645 : (Cond.methodLink "QuorumStore$Node" (276 : Nat) ({ cls := "java/lang/Math", name := "min", desc := "(II)I" } : Jvm.MethodName)) ∈ xw_T := xw_in 645 (by decide +kernel) (by decide +kernel)
theorem k_646 : (Cond.static ({ cls := "java/lang/Math", name := "min", desc := "(II)I" } : Jvm.MethodName)) ∈ xw_T := xw_in 646 (by decide +kernel) (by decide +kernel)
theorem k_647 : (Cond.code ({ cls := "java/lang/Math", name := "min", desc := "(II)I" } : Jvm.MethodName) prog_20_method_69_code (2 : Nat) (Option.some Jvm.ClassFile.FieldType.int)) ∈ xw_T := xw_in 647 (by decide +kernel) (by decide +kernel)
theorem k_648 : (Cond.methodLink "QuorumStore$Node" (234 : Nat) ({ cls := "QuorumStore$Node", name := "onSnapshot", desc := "(LQuorumStore$Message;)V" } : Jvm.MethodName)) ∈ xw_T := xw_in 648 (by decide +kernel) (by decide +kernel)
theorem k_650 : (Cond.instanceMethod ({ cls := "QuorumStore$Node", name := "onSnapshot", desc := "(LQuorumStore$Message;)V" } : Jvm.MethodName)) ∈ xw_T := xw_in 650 (by decide +kernel) (by decide +kernel)
theorem k_651 : (Cond.code ({ cls := "QuorumStore$Node", name := "onSnapshot", desc := "(LQuorumStore$Message;)V" } : Jvm.MethodName) prog_5_method_33_code (2 : Nat) (Option.none : Option Jvm.ClassFile.FieldType)) ∈ xw_T := xw_in 651 (by decide +kernel) (by decide +kernel)
theorem k_652 : (Cond.methodLink "QuorumStoreLaw" (83 : Nat) ({ cls := "QuorumStoreLaw", name := "drop", desc := "(LQuorumStore;I[J)I" } : Jvm.MethodName)) ∈ xw_T := xw_in 652 (by decide +kernel) (by decide +kernel)
theorem k_653 : (Cond.static ({ cls := "QuorumStoreLaw", name := "drop", desc := "(LQuorumStore;I[J)I" } : Jvm.MethodName)) ∈ xw_T := xw_in 653 (by decide +kernel) (by decide +kernel)
theorem k_655 : (Cond.methodLink "QuorumStoreLaw" (20 : Nat) ({ cls := "QuorumStore", name := "drop", desc := "(I)I" } : Jvm.MethodName)) ∈ xw_T := xw_in 655 (by decide +kernel) (by decide +kernel)
theorem k_656 : (Cond.instanceMethod ({ cls := "QuorumStore", name := "drop", desc := "(I)I" } : Jvm.MethodName)) ∈ xw_T := xw_in 656 (by decide +kernel) (by decide +kernel)
theorem k_657 : (Cond.selects "QuorumStore" ({ cls := "QuorumStore", name := "drop", desc := "(I)I" } : Jvm.MethodName) ({ cls := "QuorumStore", name := "drop", desc := "(I)I" } : Jvm.MethodName)) ∈ xw_T := xw_in 657 (by decide +kernel) (by decide +kernel)
theorem k_658 : (Cond.code ({ cls := "QuorumStore", name := "drop", desc := "(I)I" } : Jvm.MethodName) prog_1_method_4_code (2 : Nat) (Option.some Jvm.ClassFile.FieldType.int)) ∈ xw_T := xw_in 658 (by decide +kernel) (by decide +kernel)
theorem k_659 : (Cond.methodLink "QuorumStoreLaw" (86 : Nat) ({ cls := "QuorumStoreLaw", name := "copy", desc := "(LQuorumStore;I[J)I" } : Jvm.MethodName)) ∈ xw_T := xw_in 659 (by decide +kernel) (by decide +kernel)
theorem k_660 : (Cond.static ({ cls := "QuorumStoreLaw", name := "copy", desc := "(LQuorumStore;I[J)I" } : Jvm.MethodName)) ∈ xw_T := xw_in 660 (by decide +kernel) (by decide +kernel)
theorem k_662 : (Cond.classLink "QuorumStoreLaw" (26 : Nat) "java/lang/IllegalStateException") ∈ xw_T := xw_in 662 (by decide +kernel) (by decide +kernel)
theorem k_663 : (Cond.methodLink "QuorumStoreLaw" (23 : Nat) ({ cls := "QuorumStore", name := "copy", desc := "(I)I" } : Jvm.MethodName)) ∈ xw_T := xw_in 663 (by decide +kernel) (by decide +kernel)
theorem k_664 : (Cond.instanceMethod ({ cls := "QuorumStore", name := "copy", desc := "(I)I" } : Jvm.MethodName)) ∈ xw_T := xw_in 664 (by decide +kernel) (by decide +kernel)
theorem k_665 : (Cond.selects "QuorumStore" ({ cls := "QuorumStore", name := "copy", desc := "(I)I" } : Jvm.MethodName) ({ cls := "QuorumStore", name := "copy", desc := "(I)I" } : Jvm.MethodName)) ∈ xw_T := xw_in 665 (by decide +kernel) (by decide +kernel)
theorem k_666 : (Cond.code ({ cls := "QuorumStore", name := "copy", desc := "(I)I" } : Jvm.MethodName) prog_1_method_5_code (3 : Nat) (Option.some Jvm.ClassFile.FieldType.int)) ∈ xw_T := xw_in 666 (by decide +kernel) (by decide +kernel)
theorem k_667 : (Cond.methodLink "QuorumStore" (63 : Nat) ({ cls := "QuorumStore$Network", name := "isFull", desc := "()Z" } : Jvm.MethodName)) ∈ xw_T := xw_in 667 (by decide +kernel) (by decide +kernel)
theorem k_668 : (Cond.instanceMethod ({ cls := "QuorumStore$Network", name := "isFull", desc := "()Z" } : Jvm.MethodName)) ∈ xw_T := xw_in 668 (by decide +kernel) (by decide +kernel)
theorem k_669 : (Cond.selects "QuorumStore$Network" ({ cls := "QuorumStore$Network", name := "isFull", desc := "()Z" } : Jvm.MethodName) ({ cls := "QuorumStore$Network", name := "isFull", desc := "()Z" } : Jvm.MethodName)) ∈ xw_T := xw_in 669 (by decide +kernel) (by decide +kernel)
theorem k_670 : (Cond.code ({ cls := "QuorumStore$Network", name := "isFull", desc := "()Z" } : Jvm.MethodName) prog_4_method_2_code (1 : Nat) (Option.some Jvm.ClassFile.FieldType.boolean)) ∈ xw_T := xw_in 670 (by decide +kernel) (by decide +kernel)
theorem k_671 : (Cond.classLink "QuorumStore" (67 : Nat) "java/lang/IllegalStateException") ∈ xw_T := xw_in 671 (by decide +kernel) (by decide +kernel)
theorem k_672 : (Cond.instantiable "java/lang/IllegalStateException" (6 : Nat)) ∈ xw_T := xw_in 672 (by decide +kernel) (by decide +kernel)
theorem k_673 : (Cond.castable "java/lang/IllegalStateException" "java/lang/IllegalStateException") ∈ xw_T := xw_in 673 (by decide +kernel) (by decide +kernel)
theorem k_674 : (Cond.selects "java/lang/IllegalStateException" ({ cls := "java/lang/Throwable", name := "fillInStackTrace", desc := "(I)Ljava/lang/Throwable;" } : Jvm.MethodName) ({ cls := "java/lang/Throwable", name := "fillInStackTrace", desc := "(I)Ljava/lang/Throwable;" } : Jvm.MethodName)) ∈ xw_T := xw_in 674 (by decide +kernel) (by decide +kernel)
theorem k_681 : (Cond.methodLink "QuorumStore" (71 : Nat) ({ cls := "java/lang/IllegalStateException", name := "<init>", desc := "(Ljava/lang/String;)V" } : Jvm.MethodName)) ∈ xw_T := xw_in 681 (by decide +kernel) (by decide +kernel)
theorem k_682 : (Cond.instanceMethod ({ cls := "java/lang/IllegalStateException", name := "<init>", desc := "(Ljava/lang/String;)V" } : Jvm.MethodName)) ∈ xw_T := xw_in 682 (by decide +kernel) (by decide +kernel)
theorem k_684 : (Cond.methodLink "java/lang/IllegalStateException" (7 : Nat) ({ cls := "java/lang/RuntimeException", name := "<init>", desc := "(Ljava/lang/String;)V" } : Jvm.MethodName)) ∈ xw_T := xw_in 684 (by decide +kernel) (by decide +kernel)
theorem k_687 : (Cond.methodLink "QuorumStore" (72 : Nat) ({ cls := "QuorumStore$Network", name := "repeat", desc := "(LQuorumStore$Message;)V" } : Jvm.MethodName)) ∈ xw_T := xw_in 687 (by decide +kernel) (by decide +kernel)
theorem k_688 : (Cond.instanceMethod ({ cls := "QuorumStore$Network", name := "repeat", desc := "(LQuorumStore$Message;)V" } : Jvm.MethodName)) ∈ xw_T := xw_in 688 (by decide +kernel) (by decide +kernel)
theorem k_689 : (Cond.selects "QuorumStore$Network" ({ cls := "QuorumStore$Network", name := "repeat", desc := "(LQuorumStore$Message;)V" } : Jvm.MethodName) ({ cls := "QuorumStore$Network", name := "repeat", desc := "(LQuorumStore$Message;)V" } : Jvm.MethodName)) ∈ xw_T := xw_in 689 (by decide +kernel) (by decide +kernel)
theorem k_690 : (Cond.code ({ cls := "QuorumStore$Network", name := "repeat", desc := "(LQuorumStore$Message;)V" } : Jvm.MethodName) prog_4_method_5_code (2 : Nat) (Option.none : Option Jvm.ClassFile.FieldType)) ∈ xw_T := xw_in 690 (by decide +kernel) (by decide +kernel)
theorem k_691 : (Cond.methodLink "QuorumStoreLaw" (89 : Nat) ({ cls := "QuorumStoreLaw", name := "message", desc := "(LQuorumStore;II[J)I" } : Jvm.MethodName)) ∈ xw_T := xw_in 691 (by decide +kernel) (by decide +kernel)
theorem k_692 : (Cond.static ({ cls := "QuorumStoreLaw", name := "message", desc := "(LQuorumStore;II[J)I" } : Jvm.MethodName)) ∈ xw_T := xw_in 692 (by decide +kernel) (by decide +kernel)
theorem k_694 : (Cond.methodLink "QuorumStoreLaw" (28 : Nat) ({ cls := "QuorumStore", name := "message", desc := "(II)I" } : Jvm.MethodName)) ∈ xw_T := xw_in 694 (by decide +kernel) (by decide +kernel)
theorem k_695 : (Cond.instanceMethod ({ cls := "QuorumStore", name := "message", desc := "(II)I" } : Jvm.MethodName)) ∈ xw_T := xw_in 695 (by decide +kernel) (by decide +kernel)
theorem k_696 : (Cond.selects "QuorumStore" ({ cls := "QuorumStore", name := "message", desc := "(II)I" } : Jvm.MethodName) ({ cls := "QuorumStore", name := "message", desc := "(II)I" } : Jvm.MethodName)) ∈ xw_T := xw_in 696 (by decide +kernel) (by decide +kernel)
theorem k_697 : (Cond.code ({ cls := "QuorumStore", name := "message", desc := "(II)I" } : Jvm.MethodName) prog_1_method_6_code (4 : Nat) (Option.some Jvm.ClassFile.FieldType.int)) ∈ xw_T := xw_in 697 (by decide +kernel) (by decide +kernel)
theorem k_698 : (Cond.methodLink "QuorumStore" (91 : Nat) ({ cls := "QuorumStore$Row", name := "size", desc := "()I" } : Jvm.MethodName)) ∈ xw_T := xw_in 698 (by decide +kernel) (by decide +kernel)
theorem k_699 : (Cond.instanceMethod ({ cls := "QuorumStore$Row", name := "size", desc := "()I" } : Jvm.MethodName)) ∈ xw_T := xw_in 699 (by decide +kernel) (by decide +kernel)
theorem k_700 : (Cond.selects "QuorumStore$Row" ({ cls := "QuorumStore$Row", name := "size", desc := "()I" } : Jvm.MethodName) ({ cls := "QuorumStore$Row", name := "size", desc := "()I" } : Jvm.MethodName)) ∈ xw_T := xw_in 700 (by decide +kernel) (by decide +kernel)
theorem k_701 : (Cond.code ({ cls := "QuorumStore$Row", name := "size", desc := "()I" } : Jvm.MethodName) prog_6_method_9_code (3 : Nat) (Option.some Jvm.ClassFile.FieldType.int)) ∈ xw_T := xw_in 701 (by decide +kernel) (by decide +kernel)
theorem k_703 : (Cond.methodLink "QuorumStoreLaw" (93 : Nat) ({ cls := "QuorumStoreLaw", name := "fall", desc := "(LQuorumStore;I)I" } : Jvm.MethodName)) ∈ xw_T := xw_in 703 (by decide +kernel) (by decide +kernel)
theorem k_704 : (Cond.static ({ cls := "QuorumStoreLaw", name := "fall", desc := "(LQuorumStore;I)I" } : Jvm.MethodName)) ∈ xw_T := xw_in 704 (by decide +kernel) (by decide +kernel)
theorem k_706 : (Cond.methodLink "QuorumStoreLaw" (32 : Nat) ({ cls := "QuorumStore", name := "fall", desc := "(I)V" } : Jvm.MethodName)) ∈ xw_T := xw_in 706 (by decide +kernel) (by decide +kernel)
theorem k_707 : (Cond.instanceMethod ({ cls := "QuorumStore", name := "fall", desc := "(I)V" } : Jvm.MethodName)) ∈ xw_T := xw_in 707 (by decide +kernel) (by decide +kernel)
theorem k_708 : (Cond.selects "QuorumStore" ({ cls := "QuorumStore", name := "fall", desc := "(I)V" } : Jvm.MethodName) ({ cls := "QuorumStore", name := "fall", desc := "(I)V" } : Jvm.MethodName)) ∈ xw_T := xw_in 708 (by decide +kernel) (by decide +kernel)
theorem k_709 : (Cond.code ({ cls := "QuorumStore", name := "fall", desc := "(I)V" } : Jvm.MethodName) prog_1_method_7_code (3 : Nat) (Option.none : Option Jvm.ClassFile.FieldType)) ∈ xw_T := xw_in 709 (by decide +kernel) (by decide +kernel)
theorem k_710 : (Cond.methodLink "QuorumStore" (98 : Nat) ({ cls := "QuorumStore", name := "nodeAt", desc := "(I)LQuorumStore$Node;" } : Jvm.MethodName)) ∈ xw_T := xw_in 710 (by decide +kernel) (by decide +kernel)
theorem k_712 : (Cond.instanceMethod ({ cls := "QuorumStore", name := "nodeAt", desc := "(I)LQuorumStore$Node;" } : Jvm.MethodName)) ∈ xw_T := xw_in 712 (by decide +kernel) (by decide +kernel)
theorem k_713 : (Cond.code ({ cls := "QuorumStore", name := "nodeAt", desc := "(I)LQuorumStore$Node;" } : Jvm.MethodName) prog_1_method_16_code (2 : Nat) (Option.some (Jvm.ClassFile.FieldType.object "QuorumStore$Node"))) ∈ xw_T := xw_in 713 (by decide +kernel) (by decide +kernel)
theorem k_716 : (Cond.methodLink "QuorumStore" (104 : Nat) ({ cls := "QuorumStore$Node", name := "stop", desc := "()V" } : Jvm.MethodName)) ∈ xw_T := xw_in 716 (by decide +kernel) (by decide +kernel)
theorem k_717 : (Cond.instanceMethod ({ cls := "QuorumStore$Node", name := "stop", desc := "()V" } : Jvm.MethodName)) ∈ xw_T := xw_in 717 (by decide +kernel) (by decide +kernel)
theorem k_718 : (Cond.selects "QuorumStore$Node" ({ cls := "QuorumStore$Node", name := "stop", desc := "()V" } : Jvm.MethodName) ({ cls := "QuorumStore$Node", name := "stop", desc := "()V" } : Jvm.MethodName)) ∈ xw_T := xw_in 718 (by decide +kernel) (by decide +kernel)
theorem k_719 : (Cond.code ({ cls := "QuorumStore$Node", name := "stop", desc := "()V" } : Jvm.MethodName) prog_5_method_3_code (1 : Nat) (Option.none : Option Jvm.ClassFile.FieldType)) ∈ xw_T := xw_in 719 (by decide +kernel) (by decide +kernel)
theorem k_720 : (Cond.methodLink "QuorumStoreLaw" (97 : Nat) ({ cls := "QuorumStoreLaw", name := "rise", desc := "(LQuorumStore;I)I" } : Jvm.MethodName)) ∈ xw_T := xw_in 720 (by decide +kernel) (by decide +kernel)
theorem k_721 : (Cond.static ({ cls := "QuorumStoreLaw", name := "rise", desc := "(LQuorumStore;I)I" } : Jvm.MethodName)) ∈ xw_T := xw_in 721 (by decide +kernel) (by decide +kernel)
theorem k_723 : (Cond.methodLink "QuorumStoreLaw" (36 : Nat) ({ cls := "QuorumStore", name := "rise", desc := "(I)V" } : Jvm.MethodName)) ∈ xw_T := xw_in 723 (by decide +kernel) (by decide +kernel)
theorem k_724 : (Cond.instanceMethod ({ cls := "QuorumStore", name := "rise", desc := "(I)V" } : Jvm.MethodName)) ∈ xw_T := xw_in 724 (by decide +kernel) (by decide +kernel)
theorem k_725 : (Cond.selects "QuorumStore" ({ cls := "QuorumStore", name := "rise", desc := "(I)V" } : Jvm.MethodName) ({ cls := "QuorumStore", name := "rise", desc := "(I)V" } : Jvm.MethodName)) ∈ xw_T := xw_in 725 (by decide +kernel) (by decide +kernel)
theorem k_726 : (Cond.code ({ cls := "QuorumStore", name := "rise", desc := "(I)V" } : Jvm.MethodName) prog_1_method_8_code (3 : Nat) (Option.none : Option Jvm.ClassFile.FieldType)) ∈ xw_T := xw_in 726 (by decide +kernel) (by decide +kernel)
theorem k_728 : (Cond.methodLink "QuorumStore" (109 : Nat) ({ cls := "QuorumStore$Node", name := "start", desc := "()V" } : Jvm.MethodName)) ∈ xw_T := xw_in 728 (by decide +kernel) (by decide +kernel)
theorem k_729 : (Cond.instanceMethod ({ cls := "QuorumStore$Node", name := "start", desc := "()V" } : Jvm.MethodName)) ∈ xw_T := xw_in 729 (by decide +kernel) (by decide +kernel)
theorem k_730 : (Cond.selects "QuorumStore$Node" ({ cls := "QuorumStore$Node", name := "start", desc := "()V" } : Jvm.MethodName) ({ cls := "QuorumStore$Node", name := "start", desc := "()V" } : Jvm.MethodName)) ∈ xw_T := xw_in 730 (by decide +kernel) (by decide +kernel)
theorem k_731 : (Cond.code ({ cls := "QuorumStore$Node", name := "start", desc := "()V" } : Jvm.MethodName) prog_5_method_2_code (1 : Nat) (Option.none : Option Jvm.ClassFile.FieldType)) ∈ xw_T := xw_in 731 (by decide +kernel) (by decide +kernel)
theorem k_732 : (Cond.methodLink "QuorumStoreLaw" (100 : Nat) ({ cls := "QuorumStoreLaw", name := "key", desc := "(LQuorumStore;I[J)I" } : Jvm.MethodName)) ∈ xw_T := xw_in 732 (by decide +kernel) (by decide +kernel)
theorem k_733 : (Cond.static ({ cls := "QuorumStoreLaw", name := "key", desc := "(LQuorumStore;I[J)I" } : Jvm.MethodName)) ∈ xw_T := xw_in 733 (by decide +kernel) (by decide +kernel)
theorem k_735 : (Cond.methodLink "QuorumStoreLaw" (39 : Nat) ({ cls := "QuorumStore", name := "key", desc := "(I)I" } : Jvm.MethodName)) ∈ xw_T := xw_in 735 (by decide +kernel) (by decide +kernel)
theorem k_736 : (Cond.instanceMethod ({ cls := "QuorumStore", name := "key", desc := "(I)I" } : Jvm.MethodName)) ∈ xw_T := xw_in 736 (by decide +kernel) (by decide +kernel)
theorem k_737 : (Cond.selects "QuorumStore" ({ cls := "QuorumStore", name := "key", desc := "(I)I" } : Jvm.MethodName) ({ cls := "QuorumStore", name := "key", desc := "(I)I" } : Jvm.MethodName)) ∈ xw_T := xw_in 737 (by decide +kernel) (by decide +kernel)
theorem k_738 : (Cond.code ({ cls := "QuorumStore", name := "key", desc := "(I)I" } : Jvm.MethodName) prog_1_method_9_code (3 : Nat) (Option.some Jvm.ClassFile.FieldType.int)) ∈ xw_T := xw_in 738 (by decide +kernel) (by decide +kernel)
theorem k_740 : (Cond.methodLink "QuorumStoreLaw" (103 : Nat) ({ cls := "QuorumStoreLaw", name := "ask", desc := "(LQuorumStore;IIIIII[J)I" } : Jvm.MethodName)) ∈ xw_T := xw_in 740 (by decide +kernel) (by decide +kernel)
theorem k_741 : (Cond.static ({ cls := "QuorumStoreLaw", name := "ask", desc := "(LQuorumStore;IIIIII[J)I" } : Jvm.MethodName)) ∈ xw_T := xw_in 741 (by decide +kernel) (by decide +kernel)
theorem k_743 : (Cond.methodLink "QuorumStoreLaw" (42 : Nat) ({ cls := "QuorumStore", name := "ask", desc := "(IIIIII)I" } : Jvm.MethodName)) ∈ xw_T := xw_in 743 (by decide +kernel) (by decide +kernel)
theorem k_744 : (Cond.instanceMethod ({ cls := "QuorumStore", name := "ask", desc := "(IIIIII)I" } : Jvm.MethodName)) ∈ xw_T := xw_in 744 (by decide +kernel) (by decide +kernel)
theorem k_745 : (Cond.selects "QuorumStore" ({ cls := "QuorumStore", name := "ask", desc := "(IIIIII)I" } : Jvm.MethodName) ({ cls := "QuorumStore", name := "ask", desc := "(IIIIII)I" } : Jvm.MethodName)) ∈ xw_T := xw_in 745 (by decide +kernel) (by decide +kernel)
theorem k_746 : (Cond.code ({ cls := "QuorumStore", name := "ask", desc := "(IIIIII)I" } : Jvm.MethodName) prog_1_method_10_code (9 : Nat) (Option.some Jvm.ClassFile.FieldType.int)) ∈ xw_T := xw_in 746 (by decide +kernel) (by decide +kernel)
theorem k_747 : (Cond.methodLink "QuorumStore" (117 : Nat) ({ cls := "QuorumStore", name := "checkClient", desc := "(I)V" } : Jvm.MethodName)) ∈ xw_T := xw_in 747 (by decide +kernel) (by decide +kernel)
theorem k_748 : (Cond.static ({ cls := "QuorumStore", name := "checkClient", desc := "(I)V" } : Jvm.MethodName)) ∈ xw_T := xw_in 748 (by decide +kernel) (by decide +kernel)
theorem k_749 : (Cond.code ({ cls := "QuorumStore", name := "checkClient", desc := "(I)V" } : Jvm.MethodName) prog_1_method_18_code (1 : Nat) (Option.none : Option Jvm.ClassFile.FieldType)) ∈ xw_T := xw_in 749 (by decide +kernel) (by decide +kernel)
theorem k_752 : (Cond.methodLink "QuorumStore" (122 : Nat) ({ cls := "QuorumStore$Node", name := "refusal", desc := "(II)I" } : Jvm.MethodName)) ∈ xw_T := xw_in 752 (by decide +kernel) (by decide +kernel)
theorem k_753 : (Cond.instanceMethod ({ cls := "QuorumStore$Node", name := "refusal", desc := "(II)I" } : Jvm.MethodName)) ∈ xw_T := xw_in 753 (by decide +kernel) (by decide +kernel)
theorem k_754 : (Cond.selects "QuorumStore$Node" ({ cls := "QuorumStore$Node", name := "refusal", desc := "(II)I" } : Jvm.MethodName) ({ cls := "QuorumStore$Node", name := "refusal", desc := "(II)I" } : Jvm.MethodName)) ∈ xw_T := xw_in 754 (by decide +kernel) (by decide +kernel)
theorem k_755 : (Cond.code ({ cls := "QuorumStore$Node", name := "refusal", desc := "(II)I" } : Jvm.MethodName) prog_5_method_19_code (3 : Nat) (Option.some Jvm.ClassFile.FieldType.int)) ∈ xw_T := xw_in 755 (by decide +kernel) (by decide +kernel)
theorem k_756 : (Cond.methodLink "QuorumStore$Node" (188 : Nat) ({ cls := "QuorumStore$Lead", name := "isPending", desc := "(II)Z" } : Jvm.MethodName)) ∈ xw_T := xw_in 756 (by decide +kernel) (by decide +kernel)
theorem k_757 : (Cond.instanceMethod ({ cls := "QuorumStore$Lead", name := "isPending", desc := "(II)Z" } : Jvm.MethodName)) ∈ xw_T := xw_in 757 (by decide +kernel) (by decide +kernel)
theorem k_758 : (Cond.selects "QuorumStore$Lead" ({ cls := "QuorumStore$Lead", name := "isPending", desc := "(II)Z" } : Jvm.MethodName) ({ cls := "QuorumStore$Lead", name := "isPending", desc := "(II)Z" } : Jvm.MethodName)) ∈ xw_T := xw_in 758 (by decide +kernel) (by decide +kernel)
theorem k_759 : (Cond.code ({ cls := "QuorumStore$Lead", name := "isPending", desc := "(II)Z" } : Jvm.MethodName) prog_2_method_8_code (3 : Nat) (Option.some Jvm.ClassFile.FieldType.boolean)) ∈ xw_T := xw_in 759 (by decide +kernel) (by decide +kernel)
theorem k_760 : (Cond.methodLink "QuorumStore$Lead" (66 : Nat) ({ cls := "QuorumStore$Lead", name := "isAmong", desc := "([LQuorumStore$Value;II)Z" } : Jvm.MethodName)) ∈ xw_T := xw_in 760 (by decide +kernel) (by decide +kernel)
theorem k_761 : (Cond.static ({ cls := "QuorumStore$Lead", name := "isAmong", desc := "([LQuorumStore$Value;II)Z" } : Jvm.MethodName)) ∈ xw_T := xw_in 761 (by decide +kernel) (by decide +kernel)
theorem k_762 : (Cond.code ({ cls := "QuorumStore$Lead", name := "isAmong", desc := "([LQuorumStore$Value;II)Z" } : Jvm.MethodName) prog_2_method_9_code (7 : Nat) (Option.some Jvm.ClassFile.FieldType.boolean)) ∈ xw_T := xw_in 762 (by decide +kernel) (by decide +kernel)
theorem k_763 : (Cond.methodLink "QuorumStore$Node" (191 : Nat) ({ cls := "QuorumStore$Lead", name := "isQueueFull", desc := "()Z" } : Jvm.MethodName)) ∈ xw_T := xw_in 763 (by decide +kernel) (by decide +kernel)
theorem k_764 : (Cond.instanceMethod ({ cls := "QuorumStore$Lead", name := "isQueueFull", desc := "()Z" } : Jvm.MethodName)) ∈ xw_T := xw_in 764 (by decide +kernel) (by decide +kernel)
theorem k_765 : (Cond.selects "QuorumStore$Lead" ({ cls := "QuorumStore$Lead", name := "isQueueFull", desc := "()Z" } : Jvm.MethodName) ({ cls := "QuorumStore$Lead", name := "isQueueFull", desc := "()Z" } : Jvm.MethodName)) ∈ xw_T := xw_in 765 (by decide +kernel) (by decide +kernel)
theorem k_766 : (Cond.code ({ cls := "QuorumStore$Lead", name := "isQueueFull", desc := "()Z" } : Jvm.MethodName) prog_2_method_5_code (1 : Nat) (Option.some Jvm.ClassFile.FieldType.boolean)) ∈ xw_T := xw_in 766 (by decide +kernel) (by decide +kernel)
theorem k_767 : (Cond.classLink "QuorumStore" (126 : Nat) "QuorumStore$Value") ∈ xw_T := xw_in 767 (by decide +kernel) (by decide +kernel)
theorem k_768 : (Cond.methodLink "QuorumStore" (128 : Nat) ({ cls := "QuorumStore$Value", name := "<init>", desc := "(IIIIII)V" } : Jvm.MethodName)) ∈ xw_T := xw_in 768 (by decide +kernel) (by decide +kernel)
theorem k_769 : (Cond.methodLink "QuorumStore" (131 : Nat) ({ cls := "QuorumStore$Node", name := "take", desc := "(LQuorumStore$Value;)V" } : Jvm.MethodName)) ∈ xw_T := xw_in 769 (by decide +kernel) (by decide +kernel)
theorem k_770 : (Cond.instanceMethod ({ cls := "QuorumStore$Node", name := "take", desc := "(LQuorumStore$Value;)V" } : Jvm.MethodName)) ∈ xw_T := xw_in 770 (by decide +kernel) (by decide +kernel)
theorem k_771 : (Cond.selects "QuorumStore$Node" ({ cls := "QuorumStore$Node", name := "take", desc := "(LQuorumStore$Value;)V" } : Jvm.MethodName) ({ cls := "QuorumStore$Node", name := "take", desc := "(LQuorumStore$Value;)V" } : Jvm.MethodName)) ∈ xw_T := xw_in 771 (by decide +kernel) (by decide +kernel)
theorem k_772 : (Cond.code ({ cls := "QuorumStore$Node", name := "take", desc := "(LQuorumStore$Value;)V" } : Jvm.MethodName) prog_5_method_20_code (2 : Nat) (Option.none : Option Jvm.ClassFile.FieldType)) ∈ xw_T := xw_in 772 (by decide +kernel) (by decide +kernel)
theorem k_773 : (Cond.methodLink "QuorumStore$Node" (195 : Nat) ({ cls := "QuorumStore$Lead", name := "enqueue", desc := "(LQuorumStore$Value;)V" } : Jvm.MethodName)) ∈ xw_T := xw_in 773 (by decide +kernel) (by decide +kernel)
theorem k_774 : (Cond.instanceMethod ({ cls := "QuorumStore$Lead", name := "enqueue", desc := "(LQuorumStore$Value;)V" } : Jvm.MethodName)) ∈ xw_T := xw_in 774 (by decide +kernel) (by decide +kernel)
theorem k_775 : (Cond.selects "QuorumStore$Lead" ({ cls := "QuorumStore$Lead", name := "enqueue", desc := "(LQuorumStore$Value;)V" } : Jvm.MethodName) ({ cls := "QuorumStore$Lead", name := "enqueue", desc := "(LQuorumStore$Value;)V" } : Jvm.MethodName)) ∈ xw_T := xw_in 775 (by decide +kernel) (by decide +kernel)
theorem k_776 : (Cond.code ({ cls := "QuorumStore$Lead", name := "enqueue", desc := "(LQuorumStore$Value;)V" } : Jvm.MethodName) prog_2_method_6_code (2 : Nat) (Option.none : Option Jvm.ClassFile.FieldType)) ∈ xw_T := xw_in 776 (by decide +kernel) (by decide +kernel)
theorem k_777 : (Cond.methodLink "QuorumStoreLaw" (107 : Nat) ({ cls := "QuorumStoreLaw", name := "answer", desc := "(LQuorumStore;III[J)I" } : Jvm.MethodName)) ∈ xw_T := xw_in 777 (by decide +kernel) (by decide +kernel)
theorem k_778 : (Cond.static ({ cls := "QuorumStoreLaw", name := "answer", desc := "(LQuorumStore;III[J)I" } : Jvm.MethodName)) ∈ xw_T := xw_in 778 (by decide +kernel) (by decide +kernel)
theorem k_780 : (Cond.methodLink "QuorumStoreLaw" (46 : Nat) ({ cls := "QuorumStore", name := "answer", desc := "(III)J" } : Jvm.MethodName)) ∈ xw_T := xw_in 780 (by decide +kernel) (by decide +kernel)
theorem k_781 : (Cond.instanceMethod ({ cls := "QuorumStore", name := "answer", desc := "(III)J" } : Jvm.MethodName)) ∈ xw_T := xw_in 781 (by decide +kernel) (by decide +kernel)
theorem k_782 : (Cond.selects "QuorumStore" ({ cls := "QuorumStore", name := "answer", desc := "(III)J" } : Jvm.MethodName) ({ cls := "QuorumStore", name := "answer", desc := "(III)J" } : Jvm.MethodName)) ∈ xw_T := xw_in 782 (by decide +kernel) (by decide +kernel)
theorem k_783 : (Cond.code ({ cls := "QuorumStore", name := "answer", desc := "(III)J" } : Jvm.MethodName) prog_1_method_11_code (5 : Nat) (Option.some Jvm.ClassFile.FieldType.long)) ∈ xw_T := xw_in 783 (by decide +kernel) (by decide +kernel)
theorem k_785 : (Cond.methodLink "QuorumStoreLaw" (111 : Nat) ({ cls := "QuorumStoreLaw", name := "number", desc := "(LQuorumStore;II[J)I" } : Jvm.MethodName)) ∈ xw_T := xw_in 785 (by decide +kernel) (by decide +kernel)
theorem k_786 : (Cond.static ({ cls := "QuorumStoreLaw", name := "number", desc := "(LQuorumStore;II[J)I" } : Jvm.MethodName)) ∈ xw_T := xw_in 786 (by decide +kernel) (by decide +kernel)
theorem k_788 : (Cond.methodLink "QuorumStoreLaw" (50 : Nat) ({ cls := "QuorumStore", name := "number", desc := "(II)J" } : Jvm.MethodName)) ∈ xw_T := xw_in 788 (by decide +kernel) (by decide +kernel)
theorem k_789 : (Cond.instanceMethod ({ cls := "QuorumStore", name := "number", desc := "(II)J" } : Jvm.MethodName)) ∈ xw_T := xw_in 789 (by decide +kernel) (by decide +kernel)
theorem k_790 : (Cond.selects "QuorumStore" ({ cls := "QuorumStore", name := "number", desc := "(II)J" } : Jvm.MethodName) ({ cls := "QuorumStore", name := "number", desc := "(II)J" } : Jvm.MethodName)) ∈ xw_T := xw_in 790 (by decide +kernel) (by decide +kernel)
theorem k_791 : (Cond.code ({ cls := "QuorumStore", name := "number", desc := "(II)J" } : Jvm.MethodName) prog_1_method_12_code (4 : Nat) (Option.some Jvm.ClassFile.FieldType.long)) ∈ xw_T := xw_in 791 (by decide +kernel) (by decide +kernel)
theorem k_793 : (Cond.methodLink "QuorumStoreLaw" (114 : Nat) ({ cls := "QuorumStoreLaw", name := "known", desc := "(LQuorumStore;III[J)I" } : Jvm.MethodName)) ∈ xw_T := xw_in 793 (by decide +kernel) (by decide +kernel)
theorem k_794 : (Cond.static ({ cls := "QuorumStoreLaw", name := "known", desc := "(LQuorumStore;III[J)I" } : Jvm.MethodName)) ∈ xw_T := xw_in 794 (by decide +kernel) (by decide +kernel)
theorem k_796 : (Cond.methodLink "QuorumStoreLaw" (54 : Nat) ({ cls := "QuorumStore", name := "known", desc := "(III)I" } : Jvm.MethodName)) ∈ xw_T := xw_in 796 (by decide +kernel) (by decide +kernel)
theorem k_797 : (Cond.instanceMethod ({ cls := "QuorumStore", name := "known", desc := "(III)I" } : Jvm.MethodName)) ∈ xw_T := xw_in 797 (by decide +kernel) (by decide +kernel)
theorem k_798 : (Cond.selects "QuorumStore" ({ cls := "QuorumStore", name := "known", desc := "(III)I" } : Jvm.MethodName) ({ cls := "QuorumStore", name := "known", desc := "(III)I" } : Jvm.MethodName)) ∈ xw_T := xw_in 798 (by decide +kernel) (by decide +kernel)
theorem k_799 : (Cond.code ({ cls := "QuorumStore", name := "known", desc := "(III)I" } : Jvm.MethodName) prog_1_method_13_code (5 : Nat) (Option.some Jvm.ClassFile.FieldType.int)) ∈ xw_T := xw_in 799 (by decide +kernel) (by decide +kernel)
theorem k_800 : (Cond.methodLink "QuorumStore" (162 : Nat) ({ cls := "QuorumStore$Row", name := "valueAt", desc := "(I)LQuorumStore$Value;" } : Jvm.MethodName)) ∈ xw_T := xw_in 800 (by decide +kernel) (by decide +kernel)
theorem k_802 : (Cond.methodLink "QuorumStoreLaw" (117 : Nat) ({ cls := "QuorumStoreLaw", name := "about", desc := "(LQuorumStore;II[J)I" } : Jvm.MethodName)) ∈ xw_T := xw_in 802 (by decide +kernel) (by decide +kernel)
theorem k_803 : (Cond.static ({ cls := "QuorumStoreLaw", name := "about", desc := "(LQuorumStore;II[J)I" } : Jvm.MethodName)) ∈ xw_T := xw_in 803 (by decide +kernel) (by decide +kernel)
theorem k_805 : (Cond.methodLink "QuorumStoreLaw" (58 : Nat) ({ cls := "QuorumStore", name := "about", desc := "(II)I" } : Jvm.MethodName)) ∈ xw_T := xw_in 805 (by decide +kernel) (by decide +kernel)
theorem k_806 : (Cond.instanceMethod ({ cls := "QuorumStore", name := "about", desc := "(II)I" } : Jvm.MethodName)) ∈ xw_T := xw_in 806 (by decide +kernel) (by decide +kernel)
theorem k_807 : (Cond.selects "QuorumStore" ({ cls := "QuorumStore", name := "about", desc := "(II)I" } : Jvm.MethodName) ({ cls := "QuorumStore", name := "about", desc := "(II)I" } : Jvm.MethodName)) ∈ xw_T := xw_in 807 (by decide +kernel) (by decide +kernel)
theorem k_808 : (Cond.code ({ cls := "QuorumStore", name := "about", desc := "(II)I" } : Jvm.MethodName) prog_1_method_14_code (4 : Nat) (Option.some Jvm.ClassFile.FieldType.int)) ∈ xw_T := xw_in 808 (by decide +kernel) (by decide +kernel)
theorem k_809 : (Cond.methodLink "QuorumStore" (197 : Nat) ({ cls := "QuorumStore$State", name := "configAt", desc := "(I)I" } : Jvm.MethodName)) ∈ xw_T := xw_in 809 (by decide +kernel) (by decide +kernel)
theorem k_811 : (Cond.classLink "QuorumStoreLaw" (69 : Nat) "QuorumStoreModel") ∈ xw_T := xw_in 811 (by decide +kernel) (by decide +kernel)
theorem k_812 : (Cond.instantiable "QuorumStoreModel" (10 : Nat)) ∈ xw_T := xw_in 812 (by decide +kernel) (by decide +kernel)
theorem k_813 : (Cond.methodLink "QuorumStoreLaw" (71 : Nat) ({ cls := "QuorumStoreModel", name := "<init>", desc := "(I)V" } : Jvm.MethodName)) ∈ xw_T := xw_in 813 (by decide +kernel) (by decide +kernel)
theorem k_814 : (Cond.instanceMethod ({ cls := "QuorumStoreModel", name := "<init>", desc := "(I)V" } : Jvm.MethodName)) ∈ xw_T := xw_in 814 (by decide +kernel) (by decide +kernel)
theorem k_815 : (Cond.code ({ cls := "QuorumStoreModel", name := "<init>", desc := "(I)V" } : Jvm.MethodName) prog_10_method_1_code (3 : Nat) (Option.none : Option Jvm.ClassFile.FieldType)) ∈ xw_T := xw_in 815 (by decide +kernel) (by decide +kernel)
theorem k_816 : (Cond.methodLink "QuorumStoreModel" (1 : Nat) ({ cls := "java/lang/Object", name := "<init>", desc := "()V" } : Jvm.MethodName)) ∈ xw_T := xw_in 816 (by decide +kernel) (by decide +kernel)
theorem k_817 : (Cond.classLink "QuorumStoreModel" (9 : Nat) "QuorumStoreModel$Node") ∈ xw_T := xw_in 817 (by decide +kernel) (by decide +kernel)
theorem k_818 : (Cond.arrayOver (Jvm.ClassFile.FieldType.object "QuorumStoreModel$Node")) ∈ xw_T := xw_in 818 (by decide +kernel) (by decide +kernel)
theorem k_819 : (Cond.classLink "QuorumStoreModel" (15 : Nat) "QuorumStoreModel$Message") ∈ xw_T := xw_in 819 (by decide +kernel) (by decide +kernel)
theorem k_820 : (Cond.arrayOver (Jvm.ClassFile.FieldType.object "QuorumStoreModel$Message")) ∈ xw_T := xw_in 820 (by decide +kernel) (by decide +kernel)
theorem k_821 : (Cond.instantiable "QuorumStoreModel$Message" (8 : Nat)) ∈ xw_T := xw_in 821 (by decide +kernel) (by decide +kernel)
theorem k_822 : (Cond.methodLinkNest "QuorumStoreModel" (21 : Nat) ({ cls := "QuorumStoreModel$Message", name := "<init>", desc := "()V" } : Jvm.MethodName) "QuorumStoreModel") ∈ xw_T := xw_in 822 (by decide +kernel) (by decide +kernel)
theorem k_823 : (Cond.instanceMethod ({ cls := "QuorumStoreModel$Message", name := "<init>", desc := "()V" } : Jvm.MethodName)) ∈ xw_T := xw_in 823 (by decide +kernel) (by decide +kernel)
theorem k_824 : (Cond.code ({ cls := "QuorumStoreModel$Message", name := "<init>", desc := "()V" } : Jvm.MethodName) prog_11_method_1_code (1 : Nat) (Option.none : Option Jvm.ClassFile.FieldType)) ∈ xw_T := xw_in 824 (by decide +kernel) (by decide +kernel)
theorem k_825 : (Cond.methodLink "QuorumStoreModel$Message" (1 : Nat) ({ cls := "java/lang/Object", name := "<init>", desc := "()V" } : Jvm.MethodName)) ∈ xw_T := xw_in 825 (by decide +kernel) (by decide +kernel)
theorem k_826 : (Cond.classLink "QuorumStoreModel$Message" (7 : Nat) "QuorumStoreModel$Slots") ∈ xw_T := xw_in 826 (by decide +kernel) (by decide +kernel)
theorem k_827 : (Cond.instantiable "QuorumStoreModel$Slots" (4 : Nat)) ∈ xw_T := xw_in 827 (by decide +kernel) (by decide +kernel)
theorem k_828 : (Cond.methodLinkNest "QuorumStoreModel$Message" (9 : Nat) ({ cls := "QuorumStoreModel$Slots", name := "<init>", desc := "()V" } : Jvm.MethodName) "QuorumStoreModel") ∈ xw_T := xw_in 828 (by decide +kernel) (by decide +kernel)
theorem k_829 : (Cond.instanceMethod ({ cls := "QuorumStoreModel$Slots", name := "<init>", desc := "()V" } : Jvm.MethodName)) ∈ xw_T := xw_in 829 (by decide +kernel) (by decide +kernel)
theorem k_830 : (Cond.code ({ cls := "QuorumStoreModel$Slots", name := "<init>", desc := "()V" } : Jvm.MethodName) prog_13_method_1_code (1 : Nat) (Option.none : Option Jvm.ClassFile.FieldType)) ∈ xw_T := xw_in 830 (by decide +kernel) (by decide +kernel)
theorem k_831 : (Cond.methodLink "QuorumStoreModel$Slots" (3 : Nat) ({ cls := "java/lang/Object", name := "<init>", desc := "()V" } : Jvm.MethodName)) ∈ xw_T := xw_in 831 (by decide +kernel) (by decide +kernel)
theorem k_832 : (Cond.classLink "QuorumStoreModel$Slots" (18 : Nat) "QuorumStoreModel$Value") ∈ xw_T := xw_in 832 (by decide +kernel) (by decide +kernel)
theorem k_833 : (Cond.arrayOver (Jvm.ClassFile.FieldType.object "QuorumStoreModel$Value")) ∈ xw_T := xw_in 833 (by decide +kernel) (by decide +kernel)
theorem k_834 : (Cond.fieldLink "QuorumStoreModel$Slots" (9 : Nat) "QuorumStoreModel$Slots" "slot" "[I") ∈ xw_T := xw_in 834 (by decide +kernel) (by decide +kernel)
theorem k_835 : (Cond.fieldLink "QuorumStoreModel" (226 : Nat) "QuorumStoreModel$Slots" "slot" "[I") ∈ xw_T := xw_in 835 (by decide +kernel) (by decide +kernel)
theorem k_836 : (Cond.fieldLink "QuorumStoreModel$Slots" (15 : Nat) "QuorumStoreModel$Slots" "number" "[I") ∈ xw_T := xw_in 836 (by decide +kernel) (by decide +kernel)
theorem k_837 : (Cond.fieldLink "QuorumStoreModel" (228 : Nat) "QuorumStoreModel$Slots" "number" "[I") ∈ xw_T := xw_in 837 (by decide +kernel) (by decide +kernel)
theorem k_838 : (Cond.fieldLink "QuorumStoreModel$Slots" (20 : Nat) "QuorumStoreModel$Slots" "value" "[LQuorumStoreModel$Value;") ∈ xw_T := xw_in 838 (by decide +kernel) (by decide +kernel)
theorem k_839 : (Cond.fieldLink "QuorumStoreModel" (110 : Nat) "QuorumStoreModel$Slots" "value" "[LQuorumStoreModel$Value;") ∈ xw_T := xw_in 839 (by decide +kernel) (by decide +kernel)
theorem k_840 : (Cond.fieldLink "QuorumStoreModel$Slots" (24 : Nat) "QuorumStoreModel$Slots" "n" "I") ∈ xw_T := xw_in 840 (by decide +kernel) (by decide +kernel)
theorem k_841 : (Cond.fieldLink "QuorumStoreModel$Message" (43 : Nat) "QuorumStoreModel$Slots" "n" "I") ∈ xw_T := xw_in 841 (by decide +kernel) (by decide +kernel)
theorem k_842 : (Cond.fieldLink "QuorumStoreModel" (210 : Nat) "QuorumStoreModel$Slots" "n" "I") ∈ xw_T := xw_in 842 (by decide +kernel) (by decide +kernel)
theorem k_852 : (Cond.classLink "QuorumStoreModel$Message" (16 : Nat) "QuorumStoreModel$State") ∈ xw_T := xw_in 852 (by decide +kernel) (by decide +kernel)
theorem k_853 : (Cond.instantiable "QuorumStoreModel$State" (7 : Nat)) ∈ xw_T := xw_in 853 (by decide +kernel) (by decide +kernel)
theorem k_854 : (Cond.methodLink "QuorumStoreModel$Message" (18 : Nat) ({ cls := "QuorumStoreModel$State", name := "<init>", desc := "()V" } : Jvm.MethodName)) ∈ xw_T := xw_in 854 (by decide +kernel) (by decide +kernel)
theorem k_855 : (Cond.instanceMethod ({ cls := "QuorumStoreModel$State", name := "<init>", desc := "()V" } : Jvm.MethodName)) ∈ xw_T := xw_in 855 (by decide +kernel) (by decide +kernel)
theorem k_856 : (Cond.code ({ cls := "QuorumStoreModel$State", name := "<init>", desc := "()V" } : Jvm.MethodName) prog_14_method_1_code (2 : Nat) (Option.none : Option Jvm.ClassFile.FieldType)) ∈ xw_T := xw_in 856 (by decide +kernel) (by decide +kernel)
theorem k_857 : (Cond.methodLink "QuorumStoreModel$State" (3 : Nat) ({ cls := "java/lang/Object", name := "<init>", desc := "()V" } : Jvm.MethodName)) ∈ xw_T := xw_in 857 (by decide +kernel) (by decide +kernel)
theorem k_858 : (Cond.constantLong "QuorumStoreModel$State" (28 : Nat) (1099511627776 : Int64)) ∈ xw_T := xw_in 858 (by decide +kernel) (by decide +kernel)
theorem k_859 : (Cond.fieldLink "QuorumStoreModel$State" (30 : Nat) "QuorumStoreModel$State" "applied" "I") ∈ xw_T := xw_in 859 (by decide +kernel) (by decide +kernel)
theorem k_860 : (Cond.fieldLink "QuorumStoreModel" (92 : Nat) "QuorumStoreModel$State" "applied" "I") ∈ xw_T := xw_in 860 (by decide +kernel) (by decide +kernel)
theorem k_861 : (Cond.fieldLink "QuorumStoreModel$State" (9 : Nat) "QuorumStoreModel$State" "numbers" "[J") ∈ xw_T := xw_in 861 (by decide +kernel) (by decide +kernel)
theorem k_862 : (Cond.fieldLink "QuorumStoreModel" (139 : Nat) "QuorumStoreModel$State" "numbers" "[J") ∈ xw_T := xw_in 862 (by decide +kernel) (by decide +kernel)
theorem k_863 : (Cond.fieldLink "QuorumStoreModel$State" (15 : Nat) "QuorumStoreModel$State" "results" "[J") ∈ xw_T := xw_in 863 (by decide +kernel) (by decide +kernel)
theorem k_864 : (Cond.fieldLink "QuorumStoreModel" (154 : Nat) "QuorumStoreModel$State" "results" "[J") ∈ xw_T := xw_in 864 (by decide +kernel) (by decide +kernel)
theorem k_865 : (Cond.fieldLink "QuorumStoreModel$State" (18 : Nat) "QuorumStoreModel$State" "seqs" "[I") ∈ xw_T := xw_in 865 (by decide +kernel) (by decide +kernel)
theorem k_866 : (Cond.fieldLink "QuorumStoreModel" (132 : Nat) "QuorumStoreModel$State" "seqs" "[I") ∈ xw_T := xw_in 866 (by decide +kernel) (by decide +kernel)
theorem k_867 : (Cond.fieldLink "QuorumStoreModel$State" (22 : Nat) "QuorumStoreModel$State" "from" "[I") ∈ xw_T := xw_in 867 (by decide +kernel) (by decide +kernel)
theorem k_868 : (Cond.fieldLink "QuorumStoreModel$State" (25 : Nat) "QuorumStoreModel$State" "mask" "[I") ∈ xw_T := xw_in 868 (by decide +kernel) (by decide +kernel)
theorem k_869 : (Cond.fieldLink "QuorumStoreModel$State" (34 : Nat) "QuorumStoreModel$State" "configs" "I") ∈ xw_T := xw_in 869 (by decide +kernel) (by decide +kernel)
theorem k_870 : (Cond.fieldLink "QuorumStoreModel" (324 : Nat) "QuorumStoreModel$State" "configs" "I") ∈ xw_T := xw_in 870 (by decide +kernel) (by decide +kernel)
theorem k_886 : (Cond.fieldLink "QuorumStoreModel$Message" (23 : Nat) "QuorumStoreModel$Message" "kind" "I") ∈ xw_T := xw_in 886 (by decide +kernel) (by decide +kernel)
theorem k_887 : (Cond.fieldLink "QuorumStoreModel" (59 : Nat) "QuorumStoreModel$Message" "kind" "I") ∈ xw_T := xw_in 887 (by decide +kernel) (by decide +kernel)
theorem k_888 : (Cond.fieldLink "QuorumStoreModel$Message" (27 : Nat) "QuorumStoreModel$Message" "from" "I") ∈ xw_T := xw_in 888 (by decide +kernel) (by decide +kernel)
theorem k_889 : (Cond.fieldLink "QuorumStoreModel" (65 : Nat) "QuorumStoreModel$Message" "from" "I") ∈ xw_T := xw_in 889 (by decide +kernel) (by decide +kernel)
theorem k_890 : (Cond.fieldLink "QuorumStoreModel$Message" (30 : Nat) "QuorumStoreModel$Message" "to" "I") ∈ xw_T := xw_in 890 (by decide +kernel) (by decide +kernel)
theorem k_891 : (Cond.fieldLink "QuorumStoreModel" (68 : Nat) "QuorumStoreModel$Message" "to" "I") ∈ xw_T := xw_in 891 (by decide +kernel) (by decide +kernel)
theorem k_892 : (Cond.fieldLink "QuorumStoreModel$Message" (33 : Nat) "QuorumStoreModel$Message" "ballot" "I") ∈ xw_T := xw_in 892 (by decide +kernel) (by decide +kernel)
theorem k_893 : (Cond.fieldLink "QuorumStoreModel" (71 : Nat) "QuorumStoreModel$Message" "ballot" "I") ∈ xw_T := xw_in 893 (by decide +kernel) (by decide +kernel)
theorem k_894 : (Cond.fieldLink "QuorumStoreModel$Message" (36 : Nat) "QuorumStoreModel$Message" "slot" "I") ∈ xw_T := xw_in 894 (by decide +kernel) (by decide +kernel)
theorem k_895 : (Cond.fieldLink "QuorumStoreModel" (74 : Nat) "QuorumStoreModel$Message" "slot" "I") ∈ xw_T := xw_in 895 (by decide +kernel) (by decide +kernel)
theorem k_896 : (Cond.fieldLink "QuorumStoreModel$Message" (39 : Nat) "QuorumStoreModel$Message" "value" "LQuorumStoreModel$Value;") ∈ xw_T := xw_in 896 (by decide +kernel) (by decide +kernel)
theorem k_897 : (Cond.fieldLink "QuorumStoreModel" (77 : Nat) "QuorumStoreModel$Message" "value" "LQuorumStoreModel$Value;") ∈ xw_T := xw_in 897 (by decide +kernel) (by decide +kernel)
theorem k_898 : (Cond.fieldLink "QuorumStoreModel$Message" (10 : Nat) "QuorumStoreModel$Message" "list" "LQuorumStoreModel$Slots;") ∈ xw_T := xw_in 898 (by decide +kernel) (by decide +kernel)
theorem k_899 : (Cond.fieldLink "QuorumStoreModel" (272 : Nat) "QuorumStoreModel$Message" "list" "LQuorumStoreModel$Slots;") ∈ xw_T := xw_in 899 (by decide +kernel) (by decide +kernel)
theorem k_900 : (Cond.fieldLink "QuorumStoreModel$Message" (19 : Nat) "QuorumStoreModel$Message" "state" "LQuorumStoreModel$State;") ∈ xw_T := xw_in 900 (by decide +kernel) (by decide +kernel)
theorem k_901 : (Cond.fieldLink "QuorumStoreModel" (294 : Nat) "QuorumStoreModel$Message" "state" "LQuorumStoreModel$State;") ∈ xw_T := xw_in 901 (by decide +kernel) (by decide +kernel)
theorem k_919 : (Cond.instantiable "QuorumStoreModel$Node" (17 : Nat)) ∈ xw_T := xw_in 919 (by decide +kernel) (by decide +kernel)
theorem k_920 : (Cond.methodLink "QuorumStoreModel" (29 : Nat) ({ cls := "QuorumStoreModel$Node", name := "<init>", desc := "(I)V" } : Jvm.MethodName)) ∈ xw_T := xw_in 920 (by decide +kernel) (by decide +kernel)
theorem k_921 : (Cond.instanceMethod ({ cls := "QuorumStoreModel$Node", name := "<init>", desc := "(I)V" } : Jvm.MethodName)) ∈ xw_T := xw_in 921 (by decide +kernel) (by decide +kernel)
theorem k_922 : (Cond.code ({ cls := "QuorumStoreModel$Node", name := "<init>", desc := "(I)V" } : Jvm.MethodName) prog_12_method_1_code (2 : Nat) (Option.none : Option Jvm.ClassFile.FieldType)) ∈ xw_T := xw_in 922 (by decide +kernel) (by decide +kernel)
theorem k_923 : (Cond.methodLink "QuorumStoreModel$Node" (3 : Nat) ({ cls := "java/lang/Object", name := "<init>", desc := "()V" } : Jvm.MethodName)) ∈ xw_T := xw_in 923 (by decide +kernel) (by decide +kernel)
theorem k_924 : (Cond.classLink "QuorumStoreModel$Node" (19 : Nat) "QuorumStoreModel$State") ∈ xw_T := xw_in 924 (by decide +kernel) (by decide +kernel)
theorem k_925 : (Cond.methodLink "QuorumStoreModel$Node" (21 : Nat) ({ cls := "QuorumStoreModel$State", name := "<init>", desc := "()V" } : Jvm.MethodName)) ∈ xw_T := xw_in 925 (by decide +kernel) (by decide +kernel)
theorem k_926 : (Cond.classLink "QuorumStoreModel$Node" (26 : Nat) "QuorumStoreModel$Slots") ∈ xw_T := xw_in 926 (by decide +kernel) (by decide +kernel)
theorem k_927 : (Cond.methodLinkNest "QuorumStoreModel$Node" (28 : Nat) ({ cls := "QuorumStoreModel$Slots", name := "<init>", desc := "()V" } : Jvm.MethodName) "QuorumStoreModel") ∈ xw_T := xw_in 927 (by decide +kernel) (by decide +kernel)
theorem k_928 : (Cond.classLink "QuorumStoreModel$Node" (42 : Nat) "QuorumStoreModel$Value") ∈ xw_T := xw_in 928 (by decide +kernel) (by decide +kernel)
theorem k_929 : (Cond.fieldLink "QuorumStoreModel$Node" (48 : Nat) "QuorumStoreModel$Node" "number" "I") ∈ xw_T := xw_in 929 (by decide +kernel) (by decide +kernel)
theorem k_930 : (Cond.fieldLink "QuorumStoreModel" (62 : Nat) "QuorumStoreModel$Node" "number" "I") ∈ xw_T := xw_in 930 (by decide +kernel) (by decide +kernel)
theorem k_931 : (Cond.fieldLink "QuorumStoreModel$Node" (9 : Nat) "QuorumStoreModel$Node" "live" "Z") ∈ xw_T := xw_in 931 (by decide +kernel) (by decide +kernel)
theorem k_932 : (Cond.fieldLink "QuorumStoreModel" (256 : Nat) "QuorumStoreModel$Node" "live" "Z") ∈ xw_T := xw_in 932 (by decide +kernel) (by decide +kernel)
theorem k_933 : (Cond.fieldLink "QuorumStoreModel" (173 : Nat) "QuorumStoreModel$Node" "leads" "Z") ∈ xw_T := xw_in 933 (by decide +kernel) (by decide +kernel)
theorem k_934 : (Cond.fieldLink "QuorumStoreModel" (195 : Nat) "QuorumStoreModel$Node" "promised" "I") ∈ xw_T := xw_in 934 (by decide +kernel) (by decide +kernel)
theorem k_935 : (Cond.fieldLink "QuorumStoreModel" (123 : Nat) "QuorumStoreModel$Node" "base" "I") ∈ xw_T := xw_in 935 (by decide +kernel) (by decide +kernel)
theorem k_936 : (Cond.fieldLink "QuorumStoreModel" (186 : Nat) "QuorumStoreModel$Node" "ballot" "I") ∈ xw_T := xw_in 936 (by decide +kernel) (by decide +kernel)
theorem k_937 : (Cond.fieldLink "QuorumStoreModel$Node" (51 : Nat) "QuorumStoreModel$Node" "timer" "I") ∈ xw_T := xw_in 937 (by decide +kernel) (by decide +kernel)
theorem k_938 : (Cond.fieldLink "QuorumStoreModel" (219 : Nat) "QuorumStoreModel$Node" "timer" "I") ∈ xw_T := xw_in 938 (by decide +kernel) (by decide +kernel)
theorem k_939 : (Cond.fieldLink "QuorumStoreModel$Node" (15 : Nat) "QuorumStoreModel$Node" "leader" "I") ∈ xw_T := xw_in 939 (by decide +kernel) (by decide +kernel)
theorem k_940 : (Cond.fieldLink "QuorumStoreModel" (216 : Nat) "QuorumStoreModel$Node" "leader" "I") ∈ xw_T := xw_in 940 (by decide +kernel) (by decide +kernel)
theorem k_941 : (Cond.fieldLink "QuorumStoreModel" (183 : Nat) "QuorumStoreModel$Node" "grants" "I") ∈ xw_T := xw_in 941 (by decide +kernel) (by decide +kernel)
theorem k_942 : (Cond.fieldLink "QuorumStoreModel" (201 : Nat) "QuorumStoreModel$Node" "told" "I") ∈ xw_T := xw_in 942 (by decide +kernel) (by decide +kernel)
theorem k_943 : (Cond.fieldLink "QuorumStoreModel$Node" (22 : Nat) "QuorumStoreModel$Node" "state" "LQuorumStoreModel$State;") ∈ xw_T := xw_in 943 (by decide +kernel) (by decide +kernel)
theorem k_944 : (Cond.fieldLink "QuorumStoreModel" (32 : Nat) "QuorumStoreModel$Node" "state" "LQuorumStoreModel$State;") ∈ xw_T := xw_in 944 (by decide +kernel) (by decide +kernel)
theorem k_945 : (Cond.fieldLink "QuorumStoreModel$Node" (29 : Nat) "QuorumStoreModel$Node" "accepted" "LQuorumStoreModel$Slots;") ∈ xw_T := xw_in 945 (by decide +kernel) (by decide +kernel)
theorem k_946 : (Cond.fieldLink "QuorumStoreModel" (117 : Nat) "QuorumStoreModel$Node" "accepted" "LQuorumStoreModel$Slots;") ∈ xw_T := xw_in 946 (by decide +kernel) (by decide +kernel)
theorem k_947 : (Cond.fieldLink "QuorumStoreModel$Node" (33 : Nat) "QuorumStoreModel$Node" "known" "LQuorumStoreModel$Slots;") ∈ xw_T := xw_in 947 (by decide +kernel) (by decide +kernel)
theorem k_948 : (Cond.fieldLink "QuorumStoreModel" (98 : Nat) "QuorumStoreModel$Node" "known" "LQuorumStoreModel$Slots;") ∈ xw_T := xw_in 948 (by decide +kernel) (by decide +kernel)
theorem k_949 : (Cond.fieldLink "QuorumStoreModel$Node" (36 : Nat) "QuorumStoreModel$Node" "best" "LQuorumStoreModel$Slots;") ∈ xw_T := xw_in 949 (by decide +kernel) (by decide +kernel)
theorem k_950 : (Cond.fieldLink "QuorumStoreModel" (180 : Nat) "QuorumStoreModel$Node" "best" "LQuorumStoreModel$Slots;") ∈ xw_T := xw_in 950 (by decide +kernel) (by decide +kernel)
theorem k_951 : (Cond.fieldLink "QuorumStoreModel$Node" (39 : Nat) "QuorumStoreModel$Node" "proposals" "LQuorumStoreModel$Slots;") ∈ xw_T := xw_in 951 (by decide +kernel) (by decide +kernel)
theorem k_952 : (Cond.fieldLink "QuorumStoreModel" (177 : Nat) "QuorumStoreModel$Node" "proposals" "LQuorumStoreModel$Slots;") ∈ xw_T := xw_in 952 (by decide +kernel) (by decide +kernel)
theorem k_953 : (Cond.fieldLink "QuorumStoreModel$Node" (44 : Nat) "QuorumStoreModel$Node" "queue" "[LQuorumStoreModel$Value;") ∈ xw_T := xw_in 953 (by decide +kernel) (by decide +kernel)
theorem k_954 : (Cond.fieldLink "QuorumStoreModel" (240 : Nat) "QuorumStoreModel$Node" "queue" "[LQuorumStoreModel$Value;") ∈ xw_T := xw_in 954 (by decide +kernel) (by decide +kernel)
theorem k_955 : (Cond.fieldLink "QuorumStoreModel" (213 : Nat) "QuorumStoreModel$Node" "queued" "I") ∈ xw_T := xw_in 955 (by decide +kernel) (by decide +kernel)
theorem k_991 : (Cond.methodLink "QuorumStoreModel" (36 : Nat) ({ cls := "QuorumStoreModel$State", name := "config", desc := "(II)V" } : Jvm.MethodName)) ∈ xw_T := xw_in 991 (by decide +kernel) (by decide +kernel)
theorem k_992 : (Cond.instanceMethod ({ cls := "QuorumStoreModel$State", name := "config", desc := "(II)V" } : Jvm.MethodName)) ∈ xw_T := xw_in 992 (by decide +kernel) (by decide +kernel)
theorem k_993 : (Cond.selects "QuorumStoreModel$State" ({ cls := "QuorumStoreModel$State", name := "config", desc := "(II)V" } : Jvm.MethodName) ({ cls := "QuorumStoreModel$State", name := "config", desc := "(II)V" } : Jvm.MethodName)) ∈ xw_T := xw_in 993 (by decide +kernel) (by decide +kernel)
theorem k_994 : (Cond.code ({ cls := "QuorumStoreModel$State", name := "config", desc := "(II)V" } : Jvm.MethodName) prog_14_method_3_code (6 : Nat) (Option.none : Option Jvm.ClassFile.FieldType)) ∈ xw_T := xw_in 994 (by decide +kernel) (by decide +kernel)
theorem k_995 : (Cond.fieldLink "QuorumStoreModel" (42 : Nat) "QuorumStoreModel" "thrown" "I") ∈ xw_T := xw_in 995 (by decide +kernel) (by decide +kernel)
theorem k_996 : (Cond.fieldLink "QuorumStoreModel" (320 : Nat) "QuorumStoreModel" "key" "I") ∈ xw_T := xw_in 996 (by decide +kernel) (by decide +kernel)
theorem k_997 : (Cond.fieldLink "QuorumStoreModel" (46 : Nat) "QuorumStoreModel" "sent" "I") ∈ xw_T := xw_in 997 (by decide +kernel) (by decide +kernel)
theorem k_998 : (Cond.fieldLink "QuorumStoreModel" (52 : Nat) "QuorumStoreModel" "lost" "I") ∈ xw_T := xw_in 998 (by decide +kernel) (by decide +kernel)
theorem k_999 : (Cond.fieldLink "QuorumStoreModel" (311 : Nat) "QuorumStoreModel" "delivered" "I") ∈ xw_T := xw_in 999 (by decide +kernel) (by decide +kernel)
theorem k_1000 : (Cond.fieldLink "QuorumStoreModel" (49 : Nat) "QuorumStoreModel" "messages" "I") ∈ xw_T := xw_in 1000 (by decide +kernel) (by decide +kernel)
theorem k_1001 : (Cond.fieldLink "QuorumStoreModel" (11 : Nat) "QuorumStoreModel" "node" "[LQuorumStoreModel$Node;") ∈ xw_T := xw_in 1001 (by decide +kernel) (by decide +kernel)
theorem k_1002 : (Cond.fieldLink "QuorumStoreModel" (17 : Nat) "QuorumStoreModel" "way" "[LQuorumStoreModel$Message;") ∈ xw_T := xw_in 1002 (by decide +kernel) (by decide +kernel)
theorem k_1003 : (Cond.fieldLink "QuorumStoreModel" (22 : Nat) "QuorumStoreModel" "hand" "LQuorumStoreModel$Message;") ∈ xw_T := xw_in 1003 (by decide +kernel) (by decide +kernel)
theorem k_1004 : (Cond.fieldLink "QuorumStoreModel" (26 : Nat) "QuorumStoreModel" "taken" "LQuorumStoreModel$Message;") ∈ xw_T := xw_in 1004 (by decide +kernel) (by decide +kernel)
theorem k_1026 : (Cond.methodLink "QuorumStoreLaw" (76 : Nat) ({ cls := "QuorumStoreModel", name := "thrown", desc := "()I" } : Jvm.MethodName)) ∈ xw_T := xw_in 1026 (by decide +kernel) (by decide +kernel)
theorem k_1027 : (Cond.instanceMethod ({ cls := "QuorumStoreModel", name := "thrown", desc := "()I" } : Jvm.MethodName)) ∈ xw_T := xw_in 1027 (by decide +kernel) (by decide +kernel)
theorem k_1028 : (Cond.selects "QuorumStoreModel" ({ cls := "QuorumStoreModel", name := "thrown", desc := "()I" } : Jvm.MethodName) ({ cls := "QuorumStoreModel", name := "thrown", desc := "()I" } : Jvm.MethodName)) ∈ xw_T := xw_in 1028 (by decide +kernel) (by decide +kernel)
theorem k_1029 : (Cond.code ({ cls := "QuorumStoreModel", name := "thrown", desc := "()I" } : Jvm.MethodName) prog_10_method_2_code (1 : Nat) (Option.some Jvm.ClassFile.FieldType.int)) ∈ xw_T := xw_in 1029 (by decide +kernel) (by decide +kernel)
theorem k_1030 : (Cond.methodLink "QuorumStoreLaw" (75 : Nat) ({ cls := "QuorumStoreModel", name := "tick", desc := "(I)I" } : Jvm.MethodName)) ∈ xw_T := xw_in 1030 (by decide +kernel) (by decide +kernel)
theorem k_1031 : (Cond.instanceMethod ({ cls := "QuorumStoreModel", name := "tick", desc := "(I)I" } : Jvm.MethodName)) ∈ xw_T := xw_in 1031 (by decide +kernel) (by decide +kernel)
theorem k_1032 : (Cond.selects "QuorumStoreModel" ({ cls := "QuorumStoreModel", name := "tick", desc := "(I)I" } : Jvm.MethodName) ({ cls := "QuorumStoreModel", name := "tick", desc := "(I)I" } : Jvm.MethodName)) ∈ xw_T := xw_in 1032 (by decide +kernel) (by decide +kernel)
theorem k_1033 : (Cond.code ({ cls := "QuorumStoreModel", name := "tick", desc := "(I)I" } : Jvm.MethodName) prog_10_method_29_code (4 : Nat) (Option.some Jvm.ClassFile.FieldType.int)) ∈ xw_T := xw_in 1033 (by decide +kernel) (by decide +kernel)
theorem k_1034 : (Cond.methodLink "QuorumStoreModel" (298 : Nat) ({ cls := "QuorumStoreModel", name := "fail", desc := "(I)I" } : Jvm.MethodName)) ∈ xw_T := xw_in 1034 (by decide +kernel) (by decide +kernel)
theorem k_1036 : (Cond.instanceMethod ({ cls := "QuorumStoreModel", name := "fail", desc := "(I)I" } : Jvm.MethodName)) ∈ xw_T := xw_in 1036 (by decide +kernel) (by decide +kernel)
theorem k_1037 : (Cond.code ({ cls := "QuorumStoreModel", name := "fail", desc := "(I)I" } : Jvm.MethodName) prog_10_method_3_code (2 : Nat) (Option.some Jvm.ClassFile.FieldType.int)) ∈ xw_T := xw_in 1037 (by decide +kernel) (by decide +kernel)
theorem k_1038 : (Cond.methodLink "QuorumStoreModel" (301 : Nat) ({ cls := "QuorumStoreModel", name := "tickOnce", desc := "(LQuorumStoreModel$Node;)V" } : Jvm.MethodName)) ∈ xw_T := xw_in 1038 (by decide +kernel) (by decide +kernel)
theorem k_1040 : (Cond.instanceMethod ({ cls := "QuorumStoreModel", name := "tickOnce", desc := "(LQuorumStoreModel$Node;)V" } : Jvm.MethodName)) ∈ xw_T := xw_in 1040 (by decide +kernel) (by decide +kernel)
theorem k_1041 : (Cond.code ({ cls := "QuorumStoreModel", name := "tickOnce", desc := "(LQuorumStoreModel$Node;)V" } : Jvm.MethodName) prog_10_method_22_code (7 : Nat) (Option.none : Option Jvm.ClassFile.FieldType)) ∈ xw_T := xw_in 1041 (by decide +kernel) (by decide +kernel)
theorem k_1042 : (Cond.methodLink "QuorumStoreModel" (95 : Nat) ({ cls := "QuorumStoreModel$State", name := "config", desc := "(I)I" } : Jvm.MethodName)) ∈ xw_T := xw_in 1042 (by decide +kernel) (by decide +kernel)
theorem k_1043 : (Cond.instanceMethod ({ cls := "QuorumStoreModel$State", name := "config", desc := "(I)I" } : Jvm.MethodName)) ∈ xw_T := xw_in 1043 (by decide +kernel) (by decide +kernel)
theorem k_1044 : (Cond.selects "QuorumStoreModel$State" ({ cls := "QuorumStoreModel$State", name := "config", desc := "(I)I" } : Jvm.MethodName) ({ cls := "QuorumStoreModel$State", name := "config", desc := "(I)I" } : Jvm.MethodName)) ∈ xw_T := xw_in 1044 (by decide +kernel) (by decide +kernel)
theorem k_1045 : (Cond.code ({ cls := "QuorumStoreModel$State", name := "config", desc := "(I)I" } : Jvm.MethodName) prog_14_method_5_code (4 : Nat) (Option.some Jvm.ClassFile.FieldType.int)) ∈ xw_T := xw_in 1045 (by decide +kernel) (by decide +kernel)
theorem k_1046 : (Cond.methodLink "QuorumStoreModel" (88 : Nat) ({ cls := "QuorumStoreModel", name := "in", desc := "(II)Z" } : Jvm.MethodName)) ∈ xw_T := xw_in 1046 (by decide +kernel) (by decide +kernel)
theorem k_1047 : (Cond.static ({ cls := "QuorumStoreModel", name := "in", desc := "(II)Z" } : Jvm.MethodName)) ∈ xw_T := xw_in 1047 (by decide +kernel) (by decide +kernel)
theorem k_1048 : (Cond.code ({ cls := "QuorumStoreModel", name := "in", desc := "(II)Z" } : Jvm.MethodName) prog_10_method_7_code (2 : Nat) (Option.some Jvm.ClassFile.FieldType.boolean)) ∈ xw_T := xw_in 1048 (by decide +kernel) (by decide +kernel)
theorem k_1049 : (Cond.methodLink "QuorumStoreModel" (259 : Nat) ({ cls := "QuorumStoreModel", name := "lead", desc := "(LQuorumStoreModel$Node;)V" } : Jvm.MethodName)) ∈ xw_T := xw_in 1049 (by decide +kernel) (by decide +kernel)
theorem k_1051 : (Cond.instanceMethod ({ cls := "QuorumStoreModel", name := "lead", desc := "(LQuorumStoreModel$Node;)V" } : Jvm.MethodName)) ∈ xw_T := xw_in 1051 (by decide +kernel) (by decide +kernel)
theorem k_1052 : (Cond.code ({ cls := "QuorumStoreModel", name := "lead", desc := "(LQuorumStoreModel$Node;)V" } : Jvm.MethodName) prog_10_method_15_code (5 : Nat) (Option.none : Option Jvm.ClassFile.FieldType)) ∈ xw_T := xw_in 1052 (by decide +kernel) (by decide +kernel)
theorem k_1053 : (Cond.methodLink "QuorumStoreModel" (198 : Nat) ({ cls := "QuorumStoreModel", name := "round", desc := "(I)I" } : Jvm.MethodName)) ∈ xw_T := xw_in 1053 (by decide +kernel) (by decide +kernel)
theorem k_1054 : (Cond.static ({ cls := "QuorumStoreModel", name := "round", desc := "(I)I" } : Jvm.MethodName)) ∈ xw_T := xw_in 1054 (by decide +kernel) (by decide +kernel)
theorem k_1055 : (Cond.code ({ cls := "QuorumStoreModel", name := "round", desc := "(I)I" } : Jvm.MethodName) prog_10_method_14_code (1 : Nat) (Option.some Jvm.ClassFile.FieldType.int)) ∈ xw_T := xw_in 1055 (by decide +kernel) (by decide +kernel)
theorem k_1056 : (Cond.methodLink "QuorumStoreModel" (204 : Nat) ({ cls := "java/lang/Math", name := "max", desc := "(II)I" } : Jvm.MethodName)) ∈ xw_T := xw_in 1056 (by decide +kernel) (by decide +kernel)
theorem k_1057 : (Cond.methodLink "QuorumStoreModel" (222 : Nat) ({ cls := "QuorumStoreModel", name := "looked", desc := "(LQuorumStoreModel$Node;LQuorumStoreModel$Slots;)V" } : Jvm.MethodName)) ∈ xw_T := xw_in 1057 (by decide +kernel) (by decide +kernel)
theorem k_1058 : (Cond.static ({ cls := "QuorumStoreModel", name := "looked", desc := "(LQuorumStoreModel$Node;LQuorumStoreModel$Slots;)V" } : Jvm.MethodName)) ∈ xw_T := xw_in 1058 (by decide +kernel) (by decide +kernel)
theorem k_1059 : (Cond.code ({ cls := "QuorumStoreModel", name := "looked", desc := "(LQuorumStoreModel$Node;LQuorumStoreModel$Slots;)V" } : Jvm.MethodName) prog_10_method_16_code (5 : Nat) (Option.none : Option Jvm.ClassFile.FieldType)) ∈ xw_T := xw_in 1059 (by decide +kernel) (by decide +kernel)
theorem k_1060 : (Cond.methodLink "QuorumStoreModel" (102 : Nat) ({ cls := "QuorumStoreModel$Slots", name := "find", desc := "(I)I" } : Jvm.MethodName)) ∈ xw_T := xw_in 1060 (by decide +kernel) (by decide +kernel)
theorem k_1061 : (Cond.instanceMethod ({ cls := "QuorumStoreModel$Slots", name := "find", desc := "(I)I" } : Jvm.MethodName)) ∈ xw_T := xw_in 1061 (by decide +kernel) (by decide +kernel)
theorem k_1062 : (Cond.selects "QuorumStoreModel$Slots" ({ cls := "QuorumStoreModel$Slots", name := "find", desc := "(I)I" } : Jvm.MethodName) ({ cls := "QuorumStoreModel$Slots", name := "find", desc := "(I)I" } : Jvm.MethodName)) ∈ xw_T := xw_in 1062 (by decide +kernel) (by decide +kernel)
theorem k_1063 : (Cond.code ({ cls := "QuorumStoreModel$Slots", name := "find", desc := "(I)I" } : Jvm.MethodName) prog_13_method_2_code (3 : Nat) (Option.some Jvm.ClassFile.FieldType.int)) ∈ xw_T := xw_in 1063 (by decide +kernel) (by decide +kernel)
theorem k_1064 : (Cond.methodLink "QuorumStoreModel" (161 : Nat) ({ cls := "QuorumStoreModel$Slots", name := "put", desc := "(IILQuorumStoreModel$Value;)V" } : Jvm.MethodName)) ∈ xw_T := xw_in 1064 (by decide +kernel) (by decide +kernel)
theorem k_1065 : (Cond.instanceMethod ({ cls := "QuorumStoreModel$Slots", name := "put", desc := "(IILQuorumStoreModel$Value;)V" } : Jvm.MethodName)) ∈ xw_T := xw_in 1065 (by decide +kernel) (by decide +kernel)
theorem k_1066 : (Cond.selects "QuorumStoreModel$Slots" ({ cls := "QuorumStoreModel$Slots", name := "put", desc := "(IILQuorumStoreModel$Value;)V" } : Jvm.MethodName) ({ cls := "QuorumStoreModel$Slots", name := "put", desc := "(IILQuorumStoreModel$Value;)V" } : Jvm.MethodName)) ∈ xw_T := xw_in 1066 (by decide +kernel) (by decide +kernel)
theorem k_1067 : (Cond.code ({ cls := "QuorumStoreModel$Slots", name := "put", desc := "(IILQuorumStoreModel$Value;)V" } : Jvm.MethodName) prog_13_method_3_code (5 : Nat) (Option.none : Option Jvm.ClassFile.FieldType)) ∈ xw_T := xw_in 1067 (by decide +kernel) (by decide +kernel)
theorem k_1068 : (Cond.methodLink "QuorumStoreModel$Slots" (28 : Nat) ({ cls := "QuorumStoreModel$Slots", name := "find", desc := "(I)I" } : Jvm.MethodName)) ∈ xw_T := xw_in 1068 (by decide +kernel) (by decide +kernel)
theorem k_1069 : (Cond.methodLink "QuorumStoreModel$Slots" (32 : Nat) ({ cls := "QuorumStoreModel$Slots", name := "grow", desc := "()V" } : Jvm.MethodName)) ∈ xw_T := xw_in 1069 (by decide +kernel) (by decide +kernel)
theorem k_1071 : (Cond.instanceMethod ({ cls := "QuorumStoreModel$Slots", name := "grow", desc := "()V" } : Jvm.MethodName)) ∈ xw_T := xw_in 1071 (by decide +kernel) (by decide +kernel)
theorem k_1072 : (Cond.code ({ cls := "QuorumStoreModel$Slots", name := "grow", desc := "()V" } : Jvm.MethodName) prog_13_method_5_code (5 : Nat) (Option.none : Option Jvm.ClassFile.FieldType)) ∈ xw_T := xw_in 1072 (by decide +kernel) (by decide +kernel)
theorem k_1073 : (Cond.methodLink "QuorumStoreModel$Slots" (35 : Nat) ({ cls := "QuorumStoreModel$Slots", name := "move", desc := "(II)V" } : Jvm.MethodName)) ∈ xw_T := xw_in 1073 (by decide +kernel) (by decide +kernel)
theorem k_1075 : (Cond.instanceMethod ({ cls := "QuorumStoreModel$Slots", name := "move", desc := "(II)V" } : Jvm.MethodName)) ∈ xw_T := xw_in 1075 (by decide +kernel) (by decide +kernel)
theorem k_1076 : (Cond.code ({ cls := "QuorumStoreModel$Slots", name := "move", desc := "(II)V" } : Jvm.MethodName) prog_13_method_4_code (3 : Nat) (Option.none : Option Jvm.ClassFile.FieldType)) ∈ xw_T := xw_in 1076 (by decide +kernel) (by decide +kernel)
theorem k_1077 : (Cond.methodLink "QuorumStoreModel" (157 : Nat) ({ cls := "QuorumStoreModel", name := "peers", desc := "(LQuorumStoreModel$Node;)I" } : Jvm.MethodName)) ∈ xw_T := xw_in 1077 (by decide +kernel) (by decide +kernel)
theorem k_1078 : (Cond.static ({ cls := "QuorumStoreModel", name := "peers", desc := "(LQuorumStoreModel$Node;)I" } : Jvm.MethodName)) ∈ xw_T := xw_in 1078 (by decide +kernel) (by decide +kernel)
theorem k_1079 : (Cond.code ({ cls := "QuorumStoreModel", name := "peers", desc := "(LQuorumStoreModel$Node;)I" } : Jvm.MethodName) prog_10_method_9_code (3 : Nat) (Option.some Jvm.ClassFile.FieldType.int)) ∈ xw_T := xw_in 1079 (by decide +kernel) (by decide +kernel)
theorem k_1080 : (Cond.methodLink "QuorumStoreModel" (187 : Nat) ({ cls := "QuorumStoreModel", name := "say", desc := "(ILQuorumStoreModel$Node;IIILQuorumStoreModel$Value;)V" } : Jvm.MethodName)) ∈ xw_T := xw_in 1080 (by decide +kernel) (by decide +kernel)
theorem k_1082 : (Cond.instanceMethod ({ cls := "QuorumStoreModel", name := "say", desc := "(ILQuorumStoreModel$Node;IIILQuorumStoreModel$Value;)V" } : Jvm.MethodName)) ∈ xw_T := xw_in 1082 (by decide +kernel) (by decide +kernel)
theorem k_1083 : (Cond.code ({ cls := "QuorumStoreModel", name := "say", desc := "(ILQuorumStoreModel$Node;IIILQuorumStoreModel$Value;)V" } : Jvm.MethodName) prog_10_method_6_code (7 : Nat) (Option.none : Option Jvm.ClassFile.FieldType)) ∈ xw_T := xw_in 1083 (by decide +kernel) (by decide +kernel)
theorem k_1084 : (Cond.methodLink "QuorumStoreModel" (81 : Nat) ({ cls := "QuorumStoreModel", name := "begin", desc := "(ILQuorumStoreModel$Node;III)LQuorumStoreModel$Message;" } : Jvm.MethodName)) ∈ xw_T := xw_in 1084 (by decide +kernel) (by decide +kernel)
theorem k_1086 : (Cond.instanceMethod ({ cls := "QuorumStoreModel", name := "begin", desc := "(ILQuorumStoreModel$Node;III)LQuorumStoreModel$Message;" } : Jvm.MethodName)) ∈ xw_T := xw_in 1086 (by decide +kernel) (by decide +kernel)
theorem k_1087 : (Cond.code ({ cls := "QuorumStoreModel", name := "begin", desc := "(ILQuorumStoreModel$Node;III)LQuorumStoreModel$Message;" } : Jvm.MethodName) prog_10_method_5_code (6 : Nat) (Option.some (Jvm.ClassFile.FieldType.object "QuorumStoreModel$Message"))) ∈ xw_T := xw_in 1087 (by decide +kernel) (by decide +kernel)
theorem k_1088 : (Cond.methodLink "QuorumStoreModel" (85 : Nat) ({ cls := "QuorumStoreModel", name := "send", desc := "(LQuorumStoreModel$Message;)V" } : Jvm.MethodName)) ∈ xw_T := xw_in 1088 (by decide +kernel) (by decide +kernel)
theorem k_1090 : (Cond.instanceMethod ({ cls := "QuorumStoreModel", name := "send", desc := "(LQuorumStoreModel$Message;)V" } : Jvm.MethodName)) ∈ xw_T := xw_in 1090 (by decide +kernel) (by decide +kernel)
theorem k_1091 : (Cond.code ({ cls := "QuorumStoreModel", name := "send", desc := "(LQuorumStoreModel$Message;)V" } : Jvm.MethodName) prog_10_method_4_code (2 : Nat) (Option.none : Option Jvm.ClassFile.FieldType)) ∈ xw_T := xw_in 1091 (by decide +kernel) (by decide +kernel)
theorem k_1092 : (Cond.methodLink "QuorumStoreModel" (55 : Nat) ({ cls := "QuorumStoreModel$Message", name := "set", desc := "(LQuorumStoreModel$Message;)V" } : Jvm.MethodName)) ∈ xw_T := xw_in 1092 (by decide +kernel) (by decide +kernel)
theorem k_1093 : (Cond.instanceMethod ({ cls := "QuorumStoreModel$Message", name := "set", desc := "(LQuorumStoreModel$Message;)V" } : Jvm.MethodName)) ∈ xw_T := xw_in 1093 (by decide +kernel) (by decide +kernel)
theorem k_1094 : (Cond.selects "QuorumStoreModel$Message" ({ cls := "QuorumStoreModel$Message", name := "set", desc := "(LQuorumStoreModel$Message;)V" } : Jvm.MethodName) ({ cls := "QuorumStoreModel$Message", name := "set", desc := "(LQuorumStoreModel$Message;)V" } : Jvm.MethodName)) ∈ xw_T := xw_in 1094 (by decide +kernel) (by decide +kernel)
theorem k_1095 : (Cond.code ({ cls := "QuorumStoreModel$Message", name := "set", desc := "(LQuorumStoreModel$Message;)V" } : Jvm.MethodName) prog_11_method_2_code (2 : Nat) (Option.none : Option Jvm.ClassFile.FieldType)) ∈ xw_T := xw_in 1095 (by decide +kernel) (by decide +kernel)
theorem k_1096 : (Cond.methodLink "QuorumStoreModel$Message" (46 : Nat) ({ cls := "QuorumStoreModel$Slots", name := "set", desc := "(LQuorumStoreModel$Slots;)V" } : Jvm.MethodName)) ∈ xw_T := xw_in 1096 (by decide +kernel) (by decide +kernel)
theorem k_1097 : (Cond.instanceMethod ({ cls := "QuorumStoreModel$Slots", name := "set", desc := "(LQuorumStoreModel$Slots;)V" } : Jvm.MethodName)) ∈ xw_T := xw_in 1097 (by decide +kernel) (by decide +kernel)
theorem k_1098 : (Cond.selects "QuorumStoreModel$Slots" ({ cls := "QuorumStoreModel$Slots", name := "set", desc := "(LQuorumStoreModel$Slots;)V" } : Jvm.MethodName) ({ cls := "QuorumStoreModel$Slots", name := "set", desc := "(LQuorumStoreModel$Slots;)V" } : Jvm.MethodName)) ∈ xw_T := xw_in 1098 (by decide +kernel) (by decide +kernel)
theorem k_1099 : (Cond.code ({ cls := "QuorumStoreModel$Slots", name := "set", desc := "(LQuorumStoreModel$Slots;)V" } : Jvm.MethodName) prog_13_method_8_code (3 : Nat) (Option.none : Option Jvm.ClassFile.FieldType)) ∈ xw_T := xw_in 1099 (by decide +kernel) (by decide +kernel)
theorem k_1100 : (Cond.methodLink "QuorumStoreModel$Slots" (43 : Nat) ({ cls := "QuorumStoreModel$Slots", name := "put", desc := "(IILQuorumStoreModel$Value;)V" } : Jvm.MethodName)) ∈ xw_T := xw_in 1100 (by decide +kernel) (by decide +kernel)
theorem k_1101 : (Cond.methodLink "QuorumStoreModel$Message" (50 : Nat) ({ cls := "QuorumStoreModel$State", name := "set", desc := "(LQuorumStoreModel$State;)V" } : Jvm.MethodName)) ∈ xw_T := xw_in 1101 (by decide +kernel) (by decide +kernel)
theorem k_1102 : (Cond.instanceMethod ({ cls := "QuorumStoreModel$State", name := "set", desc := "(LQuorumStoreModel$State;)V" } : Jvm.MethodName)) ∈ xw_T := xw_in 1102 (by decide +kernel) (by decide +kernel)
theorem k_1103 : (Cond.selects "QuorumStoreModel$State" ({ cls := "QuorumStoreModel$State", name := "set", desc := "(LQuorumStoreModel$State;)V" } : Jvm.MethodName) ({ cls := "QuorumStoreModel$State", name := "set", desc := "(LQuorumStoreModel$State;)V" } : Jvm.MethodName)) ∈ xw_T := xw_in 1103 (by decide +kernel) (by decide +kernel)
theorem k_1104 : (Cond.code ({ cls := "QuorumStoreModel$State", name := "set", desc := "(LQuorumStoreModel$State;)V" } : Jvm.MethodName) prog_14_method_2_code (3 : Nat) (Option.none : Option Jvm.ClassFile.FieldType)) ∈ xw_T := xw_in 1104 (by decide +kernel) (by decide +kernel)
theorem k_1105 : (Cond.methodLink "QuorumStoreModel$State" (37 : Nat) ({ cls := "QuorumStoreModel$State", name := "config", desc := "(II)V" } : Jvm.MethodName)) ∈ xw_T := xw_in 1105 (by decide +kernel) (by decide +kernel)
theorem k_1106 : (Cond.methodLink "QuorumStoreModel" (191 : Nat) ({ cls := "QuorumStoreModel", name := "work", desc := "(LQuorumStoreModel$Node;)V" } : Jvm.MethodName)) ∈ xw_T := xw_in 1106 (by decide +kernel) (by decide +kernel)
theorem k_1108 : (Cond.instanceMethod ({ cls := "QuorumStoreModel", name := "work", desc := "(LQuorumStoreModel$Node;)V" } : Jvm.MethodName)) ∈ xw_T := xw_in 1108 (by decide +kernel) (by decide +kernel)
theorem k_1109 : (Cond.code ({ cls := "QuorumStoreModel", name := "work", desc := "(LQuorumStoreModel$Node;)V" } : Jvm.MethodName) prog_10_method_19_code (7 : Nat) (Option.none : Option Jvm.ClassFile.FieldType)) ∈ xw_T := xw_in 1109 (by decide +kernel) (by decide +kernel)
theorem k_1110 : (Cond.methodLink "QuorumStoreModel" (230 : Nat) ({ cls := "QuorumStoreModel", name := "majority", desc := "(II)Z" } : Jvm.MethodName)) ∈ xw_T := xw_in 1110 (by decide +kernel) (by decide +kernel)
theorem k_1111 : (Cond.static ({ cls := "QuorumStoreModel", name := "majority", desc := "(II)Z" } : Jvm.MethodName)) ∈ xw_T := xw_in 1111 (by decide +kernel) (by decide +kernel)
theorem k_1112 : (Cond.code ({ cls := "QuorumStoreModel", name := "majority", desc := "(II)Z" } : Jvm.MethodName) prog_10_method_8_code (5 : Nat) (Option.some Jvm.ClassFile.FieldType.boolean)) ∈ xw_T := xw_in 1112 (by decide +kernel) (by decide +kernel)
theorem k_1113 : (Cond.methodLink "QuorumStoreModel" (233 : Nat) ({ cls := "QuorumStoreModel", name := "greater", desc := "(LQuorumStoreModel$Slots;I)Z" } : Jvm.MethodName)) ∈ xw_T := xw_in 1113 (by decide +kernel) (by decide +kernel)
theorem k_1114 : (Cond.static ({ cls := "QuorumStoreModel", name := "greater", desc := "(LQuorumStoreModel$Slots;I)Z" } : Jvm.MethodName)) ∈ xw_T := xw_in 1114 (by decide +kernel) (by decide +kernel)
theorem k_1115 : (Cond.code ({ cls := "QuorumStoreModel", name := "greater", desc := "(LQuorumStoreModel$Slots;I)Z" } : Jvm.MethodName) prog_10_method_18_code (2 : Nat) (Option.some Jvm.ClassFile.FieldType.boolean)) ∈ xw_T := xw_in 1115 (by decide +kernel) (by decide +kernel)
theorem k_1116 : (Cond.fieldLink "QuorumStoreModel" (237 : Nat) "QuorumStoreModel" "NIL" "LQuorumStoreModel$Value;") ∈ xw_T := xw_in 1116 (by decide +kernel) (by decide +kernel)
theorem k_1118 : (Cond.methodLink "QuorumStoreModel" (243 : Nat) ({ cls := "QuorumStoreModel", name := "propose", desc := "(LQuorumStoreModel$Node;ILQuorumStoreModel$Value;)V" } : Jvm.MethodName)) ∈ xw_T := xw_in 1118 (by decide +kernel) (by decide +kernel)
theorem k_1120 : (Cond.instanceMethod ({ cls := "QuorumStoreModel", name := "propose", desc := "(LQuorumStoreModel$Node;ILQuorumStoreModel$Value;)V" } : Jvm.MethodName)) ∈ xw_T := xw_in 1120 (by decide +kernel) (by decide +kernel)
theorem k_1121 : (Cond.code ({ cls := "QuorumStoreModel", name := "propose", desc := "(LQuorumStoreModel$Node;ILQuorumStoreModel$Value;)V" } : Jvm.MethodName) prog_10_method_20_code (7 : Nat) (Option.none : Option Jvm.ClassFile.FieldType)) ∈ xw_T := xw_in 1121 (by decide +kernel) (by decide +kernel)
theorem k_1122 : (Cond.methodLink "QuorumStoreModel" (247 : Nat) ({ cls := "QuorumStoreModel", name := "chosen", desc := "(LQuorumStoreModel$Node;I)V" } : Jvm.MethodName)) ∈ xw_T := xw_in 1122 (by decide +kernel) (by decide +kernel)
theorem k_1124 : (Cond.instanceMethod ({ cls := "QuorumStoreModel", name := "chosen", desc := "(LQuorumStoreModel$Node;I)V" } : Jvm.MethodName)) ∈ xw_T := xw_in 1124 (by decide +kernel) (by decide +kernel)
theorem k_1125 : (Cond.code ({ cls := "QuorumStoreModel", name := "chosen", desc := "(LQuorumStoreModel$Node;I)V" } : Jvm.MethodName) prog_10_method_21_code (7 : Nat) (Option.none : Option Jvm.ClassFile.FieldType)) ∈ xw_T := xw_in 1125 (by decide +kernel) (by decide +kernel)
theorem k_1126 : (Cond.methodLink "QuorumStoreModel" (250 : Nat) ({ cls := "QuorumStoreModel$Slots", name := "remove", desc := "(I)V" } : Jvm.MethodName)) ∈ xw_T := xw_in 1126 (by decide +kernel) (by decide +kernel)
theorem k_1127 : (Cond.instanceMethod ({ cls := "QuorumStoreModel$Slots", name := "remove", desc := "(I)V" } : Jvm.MethodName)) ∈ xw_T := xw_in 1127 (by decide +kernel) (by decide +kernel)
theorem k_1128 : (Cond.selects "QuorumStoreModel$Slots" ({ cls := "QuorumStoreModel$Slots", name := "remove", desc := "(I)V" } : Jvm.MethodName) ({ cls := "QuorumStoreModel$Slots", name := "remove", desc := "(I)V" } : Jvm.MethodName)) ∈ xw_T := xw_in 1128 (by decide +kernel) (by decide +kernel)
theorem k_1129 : (Cond.code ({ cls := "QuorumStoreModel$Slots", name := "remove", desc := "(I)V" } : Jvm.MethodName) prog_13_method_6_code (3 : Nat) (Option.none : Option Jvm.ClassFile.FieldType)) ∈ xw_T := xw_in 1129 (by decide +kernel) (by decide +kernel)
theorem k_1130 : (Cond.methodLink "QuorumStoreModel" (253 : Nat) ({ cls := "QuorumStoreModel", name := "learn", desc := "(LQuorumStoreModel$Node;ILQuorumStoreModel$Value;)V" } : Jvm.MethodName)) ∈ xw_T := xw_in 1130 (by decide +kernel) (by decide +kernel)
theorem k_1132 : (Cond.instanceMethod ({ cls := "QuorumStoreModel", name := "learn", desc := "(LQuorumStoreModel$Node;ILQuorumStoreModel$Value;)V" } : Jvm.MethodName)) ∈ xw_T := xw_in 1132 (by decide +kernel) (by decide +kernel)
theorem k_1133 : (Cond.code ({ cls := "QuorumStoreModel", name := "learn", desc := "(LQuorumStoreModel$Node;ILQuorumStoreModel$Value;)V" } : Jvm.MethodName) prog_10_method_12_code (6 : Nat) (Option.none : Option Jvm.ClassFile.FieldType)) ∈ xw_T := xw_in 1133 (by decide +kernel) (by decide +kernel)
theorem k_1134 : (Cond.methodLink "QuorumStoreModel" (165 : Nat) ({ cls := "QuorumStoreModel", name := "apply", desc := "(LQuorumStoreModel$Node;)Z" } : Jvm.MethodName)) ∈ xw_T := xw_in 1134 (by decide +kernel) (by decide +kernel)
theorem k_1136 : (Cond.instanceMethod ({ cls := "QuorumStoreModel", name := "apply", desc := "(LQuorumStoreModel$Node;)Z" } : Jvm.MethodName)) ∈ xw_T := xw_in 1136 (by decide +kernel) (by decide +kernel)
theorem k_1137 : (Cond.code ({ cls := "QuorumStoreModel", name := "apply", desc := "(LQuorumStoreModel$Node;)Z" } : Jvm.MethodName) prog_10_method_10_code (5 : Nat) (Option.some Jvm.ClassFile.FieldType.boolean)) ∈ xw_T := xw_in 1137 (by decide +kernel) (by decide +kernel)
theorem k_1138 : (Cond.methodLink "QuorumStoreModel" (107 : Nat) ({ cls := "QuorumStoreModel$State", name := "trim", desc := "()V" } : Jvm.MethodName)) ∈ xw_T := xw_in 1138 (by decide +kernel) (by decide +kernel)
theorem k_1139 : (Cond.instanceMethod ({ cls := "QuorumStoreModel$State", name := "trim", desc := "()V" } : Jvm.MethodName)) ∈ xw_T := xw_in 1139 (by decide +kernel) (by decide +kernel)
theorem k_1140 : (Cond.selects "QuorumStoreModel$State" ({ cls := "QuorumStoreModel$State", name := "trim", desc := "()V" } : Jvm.MethodName) ({ cls := "QuorumStoreModel$State", name := "trim", desc := "()V" } : Jvm.MethodName)) ∈ xw_T := xw_in 1140 (by decide +kernel) (by decide +kernel)
theorem k_1141 : (Cond.code ({ cls := "QuorumStoreModel$State", name := "trim", desc := "()V" } : Jvm.MethodName) prog_14_method_4_code (2 : Nat) (Option.none : Option Jvm.ClassFile.FieldType)) ∈ xw_T := xw_in 1141 (by decide +kernel) (by decide +kernel)
theorem k_1142 : (Cond.methodLink "QuorumStoreModel" (113 : Nat) ({ cls := "QuorumStoreModel", name := "done", desc := "(LQuorumStoreModel$State;LQuorumStoreModel$Value;)V" } : Jvm.MethodName)) ∈ xw_T := xw_in 1142 (by decide +kernel) (by decide +kernel)
theorem k_1144 : (Cond.instanceMethod ({ cls := "QuorumStoreModel", name := "done", desc := "(LQuorumStoreModel$State;LQuorumStoreModel$Value;)V" } : Jvm.MethodName)) ∈ xw_T := xw_in 1144 (by decide +kernel) (by decide +kernel)
theorem k_1145 : (Cond.code ({ cls := "QuorumStoreModel", name := "done", desc := "(LQuorumStoreModel$State;LQuorumStoreModel$Value;)V" } : Jvm.MethodName) prog_10_method_11_code (7 : Nat) (Option.none : Option Jvm.ClassFile.FieldType)) ∈ xw_T := xw_in 1145 (by decide +kernel) (by decide +kernel)
theorem k_1146 : (Cond.constantLong "QuorumStoreModel" (149 : Nat) (1099511627776 : Int64)) ∈ xw_T := xw_in 1146 (by decide +kernel) (by decide +kernel)
theorem k_1147 : (Cond.methodLink "QuorumStoreModel" (120 : Nat) ({ cls := "QuorumStoreModel$Slots", name := "forget", desc := "(I)V" } : Jvm.MethodName)) ∈ xw_T := xw_in 1147 (by decide +kernel) (by decide +kernel)
theorem k_1148 : (Cond.instanceMethod ({ cls := "QuorumStoreModel$Slots", name := "forget", desc := "(I)V" } : Jvm.MethodName)) ∈ xw_T := xw_in 1148 (by decide +kernel) (by decide +kernel)
theorem k_1149 : (Cond.selects "QuorumStoreModel$Slots" ({ cls := "QuorumStoreModel$Slots", name := "forget", desc := "(I)V" } : Jvm.MethodName) ({ cls := "QuorumStoreModel$Slots", name := "forget", desc := "(I)V" } : Jvm.MethodName)) ∈ xw_T := xw_in 1149 (by decide +kernel) (by decide +kernel)
theorem k_1150 : (Cond.code ({ cls := "QuorumStoreModel$Slots", name := "forget", desc := "(I)V" } : Jvm.MethodName) prog_13_method_7_code (2 : Nat) (Option.none : Option Jvm.ClassFile.FieldType)) ∈ xw_T := xw_in 1150 (by decide +kernel) (by decide +kernel)
theorem k_1151 : (Cond.methodLink "QuorumStoreModel$Slots" (39 : Nat) ({ cls := "QuorumStoreModel$Slots", name := "remove", desc := "(I)V" } : Jvm.MethodName)) ∈ xw_T := xw_in 1151 (by decide +kernel) (by decide +kernel)
theorem k_1152 : (Cond.methodLink "QuorumStoreModel" (169 : Nat) ({ cls := "QuorumStoreModel", name := "grown", desc := "(LQuorumStoreModel$Node;I)V" } : Jvm.MethodName)) ∈ xw_T := xw_in 1152 (by decide +kernel) (by decide +kernel)
theorem k_1154 : (Cond.instanceMethod ({ cls := "QuorumStoreModel", name := "grown", desc := "(LQuorumStoreModel$Node;I)V" } : Jvm.MethodName)) ∈ xw_T := xw_in 1154 (by decide +kernel) (by decide +kernel)
theorem k_1155 : (Cond.code ({ cls := "QuorumStoreModel", name := "grown", desc := "(LQuorumStoreModel$Node;I)V" } : Jvm.MethodName) prog_10_method_13_code (5 : Nat) (Option.none : Option Jvm.ClassFile.FieldType)) ∈ xw_T := xw_in 1155 (by decide +kernel) (by decide +kernel)
theorem k_1156 : (Cond.methodLink "QuorumStoreLaw" (82 : Nat) ({ cls := "QuorumStoreModel", name := "deliver", desc := "(I)I" } : Jvm.MethodName)) ∈ xw_T := xw_in 1156 (by decide +kernel) (by decide +kernel)
theorem k_1157 : (Cond.instanceMethod ({ cls := "QuorumStoreModel", name := "deliver", desc := "(I)I" } : Jvm.MethodName)) ∈ xw_T := xw_in 1157 (by decide +kernel) (by decide +kernel)
theorem k_1158 : (Cond.selects "QuorumStoreModel" ({ cls := "QuorumStoreModel", name := "deliver", desc := "(I)I" } : Jvm.MethodName) ({ cls := "QuorumStoreModel", name := "deliver", desc := "(I)I" } : Jvm.MethodName)) ∈ xw_T := xw_in 1158 (by decide +kernel) (by decide +kernel)
theorem k_1159 : (Cond.code ({ cls := "QuorumStoreModel", name := "deliver", desc := "(I)I" } : Jvm.MethodName) prog_10_method_32_code (3 : Nat) (Option.some Jvm.ClassFile.FieldType.int)) ∈ xw_T := xw_in 1159 (by decide +kernel) (by decide +kernel)
theorem k_1160 : (Cond.methodLink "QuorumStoreModel" (304 : Nat) ({ cls := "QuorumStoreModel", name := "none", desc := "(I)Z" } : Jvm.MethodName)) ∈ xw_T := xw_in 1160 (by decide +kernel) (by decide +kernel)
theorem k_1162 : (Cond.instanceMethod ({ cls := "QuorumStoreModel", name := "none", desc := "(I)Z" } : Jvm.MethodName)) ∈ xw_T := xw_in 1162 (by decide +kernel) (by decide +kernel)
theorem k_1163 : (Cond.code ({ cls := "QuorumStoreModel", name := "none", desc := "(I)Z" } : Jvm.MethodName) prog_10_method_30_code (2 : Nat) (Option.some Jvm.ClassFile.FieldType.boolean)) ∈ xw_T := xw_in 1163 (by decide +kernel) (by decide +kernel)
theorem k_1164 : (Cond.methodLink "QuorumStoreModel" (308 : Nat) ({ cls := "QuorumStoreModel", name := "removed", desc := "(I)V" } : Jvm.MethodName)) ∈ xw_T := xw_in 1164 (by decide +kernel) (by decide +kernel)
theorem k_1166 : (Cond.instanceMethod ({ cls := "QuorumStoreModel", name := "removed", desc := "(I)V" } : Jvm.MethodName)) ∈ xw_T := xw_in 1166 (by decide +kernel) (by decide +kernel)
theorem k_1167 : (Cond.code ({ cls := "QuorumStoreModel", name := "removed", desc := "(I)V" } : Jvm.MethodName) prog_10_method_31_code (4 : Nat) (Option.none : Option Jvm.ClassFile.FieldType)) ∈ xw_T := xw_in 1167 (by decide +kernel) (by decide +kernel)
theorem k_1168 : (Cond.methodLink "QuorumStoreModel" (314 : Nat) ({ cls := "QuorumStoreModel", name := "came", desc := "(LQuorumStoreModel$Node;LQuorumStoreModel$Message;)V" } : Jvm.MethodName)) ∈ xw_T := xw_in 1168 (by decide +kernel) (by decide +kernel)
theorem k_1170 : (Cond.instanceMethod ({ cls := "QuorumStoreModel", name := "came", desc := "(LQuorumStoreModel$Node;LQuorumStoreModel$Message;)V" } : Jvm.MethodName)) ∈ xw_T := xw_in 1170 (by decide +kernel) (by decide +kernel)
theorem k_1171 : (Cond.code ({ cls := "QuorumStoreModel", name := "came", desc := "(LQuorumStoreModel$Node;LQuorumStoreModel$Message;)V" } : Jvm.MethodName) prog_10_method_26_code (5 : Nat) (Option.none : Option Jvm.ClassFile.FieldType)) ∈ xw_T := xw_in 1171 (by decide +kernel) (by decide +kernel)
theorem k_1172 : (Cond.methodLink "QuorumStoreModel" (265 : Nat) ({ cls := "QuorumStoreModel", name := "old", desc := "(LQuorumStoreModel$Node;LQuorumStoreModel$Message;)Z" } : Jvm.MethodName)) ∈ xw_T := xw_in 1172 (by decide +kernel) (by decide +kernel)
theorem k_1174 : (Cond.instanceMethod ({ cls := "QuorumStoreModel", name := "old", desc := "(LQuorumStoreModel$Node;LQuorumStoreModel$Message;)Z" } : Jvm.MethodName)) ∈ xw_T := xw_in 1174 (by decide +kernel) (by decide +kernel)
theorem k_1175 : (Cond.code ({ cls := "QuorumStoreModel", name := "old", desc := "(LQuorumStoreModel$Node;LQuorumStoreModel$Message;)Z" } : Jvm.MethodName) prog_10_method_23_code (3 : Nat) (Option.some Jvm.ClassFile.FieldType.boolean)) ∈ xw_T := xw_in 1175 (by decide +kernel) (by decide +kernel)
theorem k_1176 : (Cond.methodLink "QuorumStoreModel" (269 : Nat) ({ cls := "QuorumStoreModel", name := "fresh", desc := "(LQuorumStoreModel$Node;I)V" } : Jvm.MethodName)) ∈ xw_T := xw_in 1176 (by decide +kernel) (by decide +kernel)
theorem k_1178 : (Cond.instanceMethod ({ cls := "QuorumStoreModel", name := "fresh", desc := "(LQuorumStoreModel$Node;I)V" } : Jvm.MethodName)) ∈ xw_T := xw_in 1178 (by decide +kernel) (by decide +kernel)
theorem k_1179 : (Cond.code ({ cls := "QuorumStoreModel", name := "fresh", desc := "(LQuorumStoreModel$Node;I)V" } : Jvm.MethodName) prog_10_method_24_code (3 : Nat) (Option.none : Option Jvm.ClassFile.FieldType)) ∈ xw_T := xw_in 1179 (by decide +kernel) (by decide +kernel)
theorem k_1180 : (Cond.methodLink "QuorumStoreModel" (262 : Nat) ({ cls := "QuorumStoreModel", name := "down", desc := "(LQuorumStoreModel$Node;)V" } : Jvm.MethodName)) ∈ xw_T := xw_in 1180 (by decide +kernel) (by decide +kernel)
theorem k_1181 : (Cond.static ({ cls := "QuorumStoreModel", name := "down", desc := "(LQuorumStoreModel$Node;)V" } : Jvm.MethodName)) ∈ xw_T := xw_in 1181 (by decide +kernel) (by decide +kernel)
theorem k_1182 : (Cond.code ({ cls := "QuorumStoreModel", name := "down", desc := "(LQuorumStoreModel$Node;)V" } : Jvm.MethodName) prog_10_method_17_code (1 : Nat) (Option.none : Option Jvm.ClassFile.FieldType)) ∈ xw_T := xw_in 1182 (by decide +kernel) (by decide +kernel)
theorem k_1183 : (Cond.methodLink "QuorumStoreModel" (275 : Nat) ({ cls := "QuorumStoreModel$Slots", name := "set", desc := "(LQuorumStoreModel$Slots;)V" } : Jvm.MethodName)) ∈ xw_T := xw_in 1183 (by decide +kernel) (by decide +kernel)
theorem k_1184 : (Cond.methodLink "QuorumStoreModel" (278 : Nat) ({ cls := "QuorumStoreModel", name := "want", desc := "(LQuorumStoreModel$Node;I)V" } : Jvm.MethodName)) ∈ xw_T := xw_in 1184 (by decide +kernel) (by decide +kernel)
theorem k_1186 : (Cond.instanceMethod ({ cls := "QuorumStoreModel", name := "want", desc := "(LQuorumStoreModel$Node;I)V" } : Jvm.MethodName)) ∈ xw_T := xw_in 1186 (by decide +kernel) (by decide +kernel)
theorem k_1187 : (Cond.code ({ cls := "QuorumStoreModel", name := "want", desc := "(LQuorumStoreModel$Node;I)V" } : Jvm.MethodName) prog_10_method_25_code (3 : Nat) (Option.none : Option Jvm.ClassFile.FieldType)) ∈ xw_T := xw_in 1187 (by decide +kernel) (by decide +kernel)
theorem k_1188 : (Cond.methodLink "QuorumStoreModel" (281 : Nat) ({ cls := "QuorumStoreModel", name := "wanted", desc := "(LQuorumStoreModel$Node;LQuorumStoreModel$Message;)V" } : Jvm.MethodName)) ∈ xw_T := xw_in 1188 (by decide +kernel) (by decide +kernel)
theorem k_1190 : (Cond.instanceMethod ({ cls := "QuorumStoreModel", name := "wanted", desc := "(LQuorumStoreModel$Node;LQuorumStoreModel$Message;)V" } : Jvm.MethodName)) ∈ xw_T := xw_in 1190 (by decide +kernel) (by decide +kernel)
theorem k_1191 : (Cond.code ({ cls := "QuorumStoreModel", name := "wanted", desc := "(LQuorumStoreModel$Node;LQuorumStoreModel$Message;)V" } : Jvm.MethodName) prog_10_method_27_code (6 : Nat) (Option.none : Option Jvm.ClassFile.FieldType)) ∈ xw_T := xw_in 1191 (by decide +kernel) (by decide +kernel)
theorem k_1192 : (Cond.constantLong "QuorumStoreModel" (288 : Nat) (7 : Int64)) ∈ xw_T := xw_in 1192 (by decide +kernel) (by decide +kernel)
theorem k_1193 : (Cond.methodLink "QuorumStoreModel" (290 : Nat) ({ cls := "java/lang/Math", name := "min", desc := "(JJ)J" } : Jvm.MethodName)) ∈ xw_T := xw_in 1193 (by decide +kernel) (by decide +kernel)
theorem k_1194 : (Cond.static ({ cls := "java/lang/Math", name := "min", desc := "(JJ)J" } : Jvm.MethodName)) ∈ xw_T := xw_in 1194 (by decide +kernel) (by decide +kernel)
theorem k_1195 : (Cond.code ({ cls := "java/lang/Math", name := "min", desc := "(JJ)J" } : Jvm.MethodName) prog_20_method_70_code (4 : Nat) (Option.some Jvm.ClassFile.FieldType.long)) ∈ xw_T := xw_in 1195 (by decide +kernel) (by decide +kernel)
theorem k_1196 : (Cond.methodLink "QuorumStoreModel" (295 : Nat) ({ cls := "QuorumStoreModel$State", name := "set", desc := "(LQuorumStoreModel$State;)V" } : Jvm.MethodName)) ∈ xw_T := xw_in 1196 (by decide +kernel) (by decide +kernel)
theorem k_1197 : (Cond.methodLink "QuorumStoreModel" (285 : Nat) ({ cls := "QuorumStoreModel", name := "snapshot", desc := "(LQuorumStoreModel$Node;LQuorumStoreModel$Message;)V" } : Jvm.MethodName)) ∈ xw_T := xw_in 1197 (by decide +kernel) (by decide +kernel)
theorem k_1199 : (Cond.instanceMethod ({ cls := "QuorumStoreModel", name := "snapshot", desc := "(LQuorumStoreModel$Node;LQuorumStoreModel$Message;)V" } : Jvm.MethodName)) ∈ xw_T := xw_in 1199 (by decide +kernel) (by decide +kernel)
theorem k_1200 : (Cond.code ({ cls := "QuorumStoreModel", name := "snapshot", desc := "(LQuorumStoreModel$Node;LQuorumStoreModel$Message;)V" } : Jvm.MethodName) prog_10_method_28_code (4 : Nat) (Option.none : Option Jvm.ClassFile.FieldType)) ∈ xw_T := xw_in 1200 (by decide +kernel) (by decide +kernel)
theorem k_1201 : (Cond.methodLink "QuorumStoreLaw" (85 : Nat) ({ cls := "QuorumStoreModel", name := "drop", desc := "(I)I" } : Jvm.MethodName)) ∈ xw_T := xw_in 1201 (by decide +kernel) (by decide +kernel)
theorem k_1202 : (Cond.instanceMethod ({ cls := "QuorumStoreModel", name := "drop", desc := "(I)I" } : Jvm.MethodName)) ∈ xw_T := xw_in 1202 (by decide +kernel) (by decide +kernel)
theorem k_1203 : (Cond.selects "QuorumStoreModel" ({ cls := "QuorumStoreModel", name := "drop", desc := "(I)I" } : Jvm.MethodName) ({ cls := "QuorumStoreModel", name := "drop", desc := "(I)I" } : Jvm.MethodName)) ∈ xw_T := xw_in 1203 (by decide +kernel) (by decide +kernel)
theorem k_1204 : (Cond.code ({ cls := "QuorumStoreModel", name := "drop", desc := "(I)I" } : Jvm.MethodName) prog_10_method_33_code (2 : Nat) (Option.some Jvm.ClassFile.FieldType.int)) ∈ xw_T := xw_in 1204 (by decide +kernel) (by decide +kernel)
theorem k_1205 : (Cond.methodLink "QuorumStoreLaw" (88 : Nat) ({ cls := "QuorumStoreModel", name := "copy", desc := "(I)I" } : Jvm.MethodName)) ∈ xw_T := xw_in 1205 (by decide +kernel) (by decide +kernel)
theorem k_1206 : (Cond.instanceMethod ({ cls := "QuorumStoreModel", name := "copy", desc := "(I)I" } : Jvm.MethodName)) ∈ xw_T := xw_in 1206 (by decide +kernel) (by decide +kernel)
theorem k_1207 : (Cond.selects "QuorumStoreModel" ({ cls := "QuorumStoreModel", name := "copy", desc := "(I)I" } : Jvm.MethodName) ({ cls := "QuorumStoreModel", name := "copy", desc := "(I)I" } : Jvm.MethodName)) ∈ xw_T := xw_in 1207 (by decide +kernel) (by decide +kernel)
theorem k_1208 : (Cond.code ({ cls := "QuorumStoreModel", name := "copy", desc := "(I)I" } : Jvm.MethodName) prog_10_method_34_code (2 : Nat) (Option.some Jvm.ClassFile.FieldType.int)) ∈ xw_T := xw_in 1208 (by decide +kernel) (by decide +kernel)
theorem k_1209 : (Cond.methodLink "QuorumStoreLaw" (92 : Nat) ({ cls := "QuorumStoreModel", name := "message", desc := "(II)I" } : Jvm.MethodName)) ∈ xw_T := xw_in 1209 (by decide +kernel) (by decide +kernel)
theorem k_1210 : (Cond.instanceMethod ({ cls := "QuorumStoreModel", name := "message", desc := "(II)I" } : Jvm.MethodName)) ∈ xw_T := xw_in 1210 (by decide +kernel) (by decide +kernel)
theorem k_1211 : (Cond.selects "QuorumStoreModel" ({ cls := "QuorumStoreModel", name := "message", desc := "(II)I" } : Jvm.MethodName) ({ cls := "QuorumStoreModel", name := "message", desc := "(II)I" } : Jvm.MethodName)) ∈ xw_T := xw_in 1211 (by decide +kernel) (by decide +kernel)
theorem k_1212 : (Cond.code ({ cls := "QuorumStoreModel", name := "message", desc := "(II)I" } : Jvm.MethodName) prog_10_method_35_code (4 : Nat) (Option.some Jvm.ClassFile.FieldType.int)) ∈ xw_T := xw_in 1212 (by decide +kernel) (by decide +kernel)
theorem k_1213 : (Cond.methodLink "QuorumStoreLaw" (96 : Nat) ({ cls := "QuorumStoreModel", name := "fall", desc := "(I)V" } : Jvm.MethodName)) ∈ xw_T := xw_in 1213 (by decide +kernel) (by decide +kernel)
theorem k_1214 : (Cond.instanceMethod ({ cls := "QuorumStoreModel", name := "fall", desc := "(I)V" } : Jvm.MethodName)) ∈ xw_T := xw_in 1214 (by decide +kernel) (by decide +kernel)
theorem k_1215 : (Cond.selects "QuorumStoreModel" ({ cls := "QuorumStoreModel", name := "fall", desc := "(I)V" } : Jvm.MethodName) ({ cls := "QuorumStoreModel", name := "fall", desc := "(I)V" } : Jvm.MethodName)) ∈ xw_T := xw_in 1215 (by decide +kernel) (by decide +kernel)
theorem k_1216 : (Cond.code ({ cls := "QuorumStoreModel", name := "fall", desc := "(I)V" } : Jvm.MethodName) prog_10_method_37_code (3 : Nat) (Option.none : Option Jvm.ClassFile.FieldType)) ∈ xw_T := xw_in 1216 (by decide +kernel) (by decide +kernel)
theorem k_1217 : (Cond.methodLink "QuorumStoreModel" (317 : Nat) ({ cls := "QuorumStoreModel", name := "noNode", desc := "(I)Z" } : Jvm.MethodName)) ∈ xw_T := xw_in 1217 (by decide +kernel) (by decide +kernel)
theorem k_1218 : (Cond.static ({ cls := "QuorumStoreModel", name := "noNode", desc := "(I)Z" } : Jvm.MethodName)) ∈ xw_T := xw_in 1218 (by decide +kernel) (by decide +kernel)
theorem k_1219 : (Cond.code ({ cls := "QuorumStoreModel", name := "noNode", desc := "(I)Z" } : Jvm.MethodName) prog_10_method_36_code (1 : Nat) (Option.some Jvm.ClassFile.FieldType.boolean)) ∈ xw_T := xw_in 1219 (by decide +kernel) (by decide +kernel)
theorem k_1220 : (Cond.methodLink "QuorumStoreLaw" (99 : Nat) ({ cls := "QuorumStoreModel", name := "rise", desc := "(I)V" } : Jvm.MethodName)) ∈ xw_T := xw_in 1220 (by decide +kernel) (by decide +kernel)
theorem k_1221 : (Cond.instanceMethod ({ cls := "QuorumStoreModel", name := "rise", desc := "(I)V" } : Jvm.MethodName)) ∈ xw_T := xw_in 1221 (by decide +kernel) (by decide +kernel)
theorem k_1222 : (Cond.selects "QuorumStoreModel" ({ cls := "QuorumStoreModel", name := "rise", desc := "(I)V" } : Jvm.MethodName) ({ cls := "QuorumStoreModel", name := "rise", desc := "(I)V" } : Jvm.MethodName)) ∈ xw_T := xw_in 1222 (by decide +kernel) (by decide +kernel)
theorem k_1223 : (Cond.code ({ cls := "QuorumStoreModel", name := "rise", desc := "(I)V" } : Jvm.MethodName) prog_10_method_38_code (2 : Nat) (Option.none : Option Jvm.ClassFile.FieldType)) ∈ xw_T := xw_in 1223 (by decide +kernel) (by decide +kernel)
theorem k_1224 : (Cond.methodLink "QuorumStoreLaw" (102 : Nat) ({ cls := "QuorumStoreModel", name := "key", desc := "(I)I" } : Jvm.MethodName)) ∈ xw_T := xw_in 1224 (by decide +kernel) (by decide +kernel)
theorem k_1225 : (Cond.instanceMethod ({ cls := "QuorumStoreModel", name := "key", desc := "(I)I" } : Jvm.MethodName)) ∈ xw_T := xw_in 1225 (by decide +kernel) (by decide +kernel)
theorem k_1226 : (Cond.selects "QuorumStoreModel" ({ cls := "QuorumStoreModel", name := "key", desc := "(I)I" } : Jvm.MethodName) ({ cls := "QuorumStoreModel", name := "key", desc := "(I)I" } : Jvm.MethodName)) ∈ xw_T := xw_in 1226 (by decide +kernel) (by decide +kernel)
theorem k_1227 : (Cond.code ({ cls := "QuorumStoreModel", name := "key", desc := "(I)I" } : Jvm.MethodName) prog_10_method_39_code (3 : Nat) (Option.some Jvm.ClassFile.FieldType.int)) ∈ xw_T := xw_in 1227 (by decide +kernel) (by decide +kernel)
theorem k_1228 : (Cond.methodLink "QuorumStoreLaw" (106 : Nat) ({ cls := "QuorumStoreModel", name := "ask", desc := "(IIIIII)I" } : Jvm.MethodName)) ∈ xw_T := xw_in 1228 (by decide +kernel) (by decide +kernel)
theorem k_1229 : (Cond.instanceMethod ({ cls := "QuorumStoreModel", name := "ask", desc := "(IIIIII)I" } : Jvm.MethodName)) ∈ xw_T := xw_in 1229 (by decide +kernel) (by decide +kernel)
theorem k_1230 : (Cond.selects "QuorumStoreModel" ({ cls := "QuorumStoreModel", name := "ask", desc := "(IIIIII)I" } : Jvm.MethodName) ({ cls := "QuorumStoreModel", name := "ask", desc := "(IIIIII)I" } : Jvm.MethodName)) ∈ xw_T := xw_in 1230 (by decide +kernel) (by decide +kernel)
theorem k_1231 : (Cond.code ({ cls := "QuorumStoreModel", name := "ask", desc := "(IIIIII)I" } : Jvm.MethodName) prog_10_method_40_code (9 : Nat) (Option.some Jvm.ClassFile.FieldType.int)) ∈ xw_T := xw_in 1231 (by decide +kernel) (by decide +kernel)
theorem k_1232 : (Cond.classLink "QuorumStoreModel" (127 : Nat) "QuorumStoreModel$Value") ∈ xw_T := xw_in 1232 (by decide +kernel) (by decide +kernel)
theorem k_1233 : (Cond.instantiable "QuorumStoreModel$Value" (6 : Nat)) ∈ xw_T := xw_in 1233 (by decide +kernel) (by decide +kernel)
theorem k_1234 : (Cond.methodLink "QuorumStoreModel" (321 : Nat) ({ cls := "QuorumStoreModel$Value", name := "<init>", desc := "(IIIIII)V" } : Jvm.MethodName)) ∈ xw_T := xw_in 1234 (by decide +kernel) (by decide +kernel)
theorem k_1235 : (Cond.instanceMethod ({ cls := "QuorumStoreModel$Value", name := "<init>", desc := "(IIIIII)V" } : Jvm.MethodName)) ∈ xw_T := xw_in 1235 (by decide +kernel) (by decide +kernel)
theorem k_1236 : (Cond.code ({ cls := "QuorumStoreModel$Value", name := "<init>", desc := "(IIIIII)V" } : Jvm.MethodName) prog_15_method_1_code (7 : Nat) (Option.none : Option Jvm.ClassFile.FieldType)) ∈ xw_T := xw_in 1236 (by decide +kernel) (by decide +kernel)
theorem k_1237 : (Cond.methodLink "QuorumStoreModel$Value" (1 : Nat) ({ cls := "java/lang/Object", name := "<init>", desc := "()V" } : Jvm.MethodName)) ∈ xw_T := xw_in 1237 (by decide +kernel) (by decide +kernel)
theorem k_1238 : (Cond.fieldLink "QuorumStoreModel$Value" (7 : Nat) "QuorumStoreModel$Value" "kind" "I") ∈ xw_T := xw_in 1238 (by decide +kernel) (by decide +kernel)
theorem k_1239 : (Cond.fieldLink "QuorumStoreModel" (126 : Nat) "QuorumStoreModel$Value" "kind" "I") ∈ xw_T := xw_in 1239 (by decide +kernel) (by decide +kernel)
theorem k_1240 : (Cond.fieldLink "QuorumStoreModel$Value" (13 : Nat) "QuorumStoreModel$Value" "client" "I") ∈ xw_T := xw_in 1240 (by decide +kernel) (by decide +kernel)
theorem k_1241 : (Cond.fieldLink "QuorumStoreModel" (136 : Nat) "QuorumStoreModel$Value" "client" "I") ∈ xw_T := xw_in 1241 (by decide +kernel) (by decide +kernel)
theorem k_1242 : (Cond.fieldLink "QuorumStoreModel$Value" (16 : Nat) "QuorumStoreModel$Value" "seq" "I") ∈ xw_T := xw_in 1242 (by decide +kernel) (by decide +kernel)
theorem k_1243 : (Cond.fieldLink "QuorumStoreModel" (129 : Nat) "QuorumStoreModel$Value" "seq" "I") ∈ xw_T := xw_in 1243 (by decide +kernel) (by decide +kernel)
theorem k_1244 : (Cond.fieldLink "QuorumStoreModel$Value" (19 : Nat) "QuorumStoreModel$Value" "key" "I") ∈ xw_T := xw_in 1244 (by decide +kernel) (by decide +kernel)
theorem k_1245 : (Cond.fieldLink "QuorumStoreModel" (143 : Nat) "QuorumStoreModel$Value" "key" "I") ∈ xw_T := xw_in 1245 (by decide +kernel) (by decide +kernel)
theorem k_1246 : (Cond.fieldLink "QuorumStoreModel$Value" (22 : Nat) "QuorumStoreModel$Value" "a" "I") ∈ xw_T := xw_in 1246 (by decide +kernel) (by decide +kernel)
theorem k_1247 : (Cond.fieldLink "QuorumStoreModel" (146 : Nat) "QuorumStoreModel$Value" "a" "I") ∈ xw_T := xw_in 1247 (by decide +kernel) (by decide +kernel)
theorem k_1248 : (Cond.fieldLink "QuorumStoreModel$Value" (25 : Nat) "QuorumStoreModel$Value" "b" "I") ∈ xw_T := xw_in 1248 (by decide +kernel) (by decide +kernel)
theorem k_1249 : (Cond.fieldLink "QuorumStoreModel" (151 : Nat) "QuorumStoreModel$Value" "b" "I") ∈ xw_T := xw_in 1249 (by decide +kernel) (by decide +kernel)
theorem k_1263 : (Cond.methodLink "QuorumStoreLaw" (110 : Nat) ({ cls := "QuorumStoreModel", name := "answer", desc := "(III)J" } : Jvm.MethodName)) ∈ xw_T := xw_in 1263 (by decide +kernel) (by decide +kernel)
theorem k_1264 : (Cond.instanceMethod ({ cls := "QuorumStoreModel", name := "answer", desc := "(III)J" } : Jvm.MethodName)) ∈ xw_T := xw_in 1264 (by decide +kernel) (by decide +kernel)
theorem k_1265 : (Cond.selects "QuorumStoreModel" ({ cls := "QuorumStoreModel", name := "answer", desc := "(III)J" } : Jvm.MethodName) ({ cls := "QuorumStoreModel", name := "answer", desc := "(III)J" } : Jvm.MethodName)) ∈ xw_T := xw_in 1265 (by decide +kernel) (by decide +kernel)
theorem k_1266 : (Cond.code ({ cls := "QuorumStoreModel", name := "answer", desc := "(III)J" } : Jvm.MethodName) prog_10_method_41_code (4 : Nat) (Option.some Jvm.ClassFile.FieldType.long)) ∈ xw_T := xw_in 1266 (by decide +kernel) (by decide +kernel)
theorem k_1267 : (Cond.methodLink "QuorumStoreLaw" (113 : Nat) ({ cls := "QuorumStoreModel", name := "number", desc := "(II)J" } : Jvm.MethodName)) ∈ xw_T := xw_in 1267 (by decide +kernel) (by decide +kernel)
theorem k_1268 : (Cond.instanceMethod ({ cls := "QuorumStoreModel", name := "number", desc := "(II)J" } : Jvm.MethodName)) ∈ xw_T := xw_in 1268 (by decide +kernel) (by decide +kernel)
theorem k_1269 : (Cond.selects "QuorumStoreModel" ({ cls := "QuorumStoreModel", name := "number", desc := "(II)J" } : Jvm.MethodName) ({ cls := "QuorumStoreModel", name := "number", desc := "(II)J" } : Jvm.MethodName)) ∈ xw_T := xw_in 1269 (by decide +kernel) (by decide +kernel)
theorem k_1270 : (Cond.code ({ cls := "QuorumStoreModel", name := "number", desc := "(II)J" } : Jvm.MethodName) prog_10_method_42_code (3 : Nat) (Option.some Jvm.ClassFile.FieldType.long)) ∈ xw_T := xw_in 1270 (by decide +kernel) (by decide +kernel)
theorem k_1271 : (Cond.methodLink "QuorumStoreLaw" (116 : Nat) ({ cls := "QuorumStoreModel", name := "known", desc := "(III)I" } : Jvm.MethodName)) ∈ xw_T := xw_in 1271 (by decide +kernel) (by decide +kernel)
theorem k_1272 : (Cond.instanceMethod ({ cls := "QuorumStoreModel", name := "known", desc := "(III)I" } : Jvm.MethodName)) ∈ xw_T := xw_in 1272 (by decide +kernel) (by decide +kernel)
theorem k_1273 : (Cond.selects "QuorumStoreModel" ({ cls := "QuorumStoreModel", name := "known", desc := "(III)I" } : Jvm.MethodName) ({ cls := "QuorumStoreModel", name := "known", desc := "(III)I" } : Jvm.MethodName)) ∈ xw_T := xw_in 1273 (by decide +kernel) (by decide +kernel)
theorem k_1274 : (Cond.code ({ cls := "QuorumStoreModel", name := "known", desc := "(III)I" } : Jvm.MethodName) prog_10_method_43_code (6 : Nat) (Option.some Jvm.ClassFile.FieldType.int)) ∈ xw_T := xw_in 1274 (by decide +kernel) (by decide +kernel)
theorem k_1275 : (Cond.methodLink "QuorumStoreLaw" (119 : Nat) ({ cls := "QuorumStoreModel", name := "about", desc := "(II)I" } : Jvm.MethodName)) ∈ xw_T := xw_in 1275 (by decide +kernel) (by decide +kernel)
theorem k_1276 : (Cond.instanceMethod ({ cls := "QuorumStoreModel", name := "about", desc := "(II)I" } : Jvm.MethodName)) ∈ xw_T := xw_in 1276 (by decide +kernel) (by decide +kernel)
theorem k_1277 : (Cond.selects "QuorumStoreModel" ({ cls := "QuorumStoreModel", name := "about", desc := "(II)I" } : Jvm.MethodName) ({ cls := "QuorumStoreModel", name := "about", desc := "(II)I" } : Jvm.MethodName)) ∈ xw_T := xw_in 1277 (by decide +kernel) (by decide +kernel)
theorem k_1278 : (Cond.code ({ cls := "QuorumStoreModel", name := "about", desc := "(II)I" } : Jvm.MethodName) prog_10_method_44_code (4 : Nat) (Option.some Jvm.ClassFile.FieldType.int)) ∈ xw_T := xw_in 1278 (by decide +kernel) (by decide +kernel)
theorem k_1279 : (Cond.methodLink "QuorumStoreLaw" (123 : Nat) ({ cls := "QuorumStoreModel", name := "count", desc := "(I)I" } : Jvm.MethodName)) ∈ xw_T := xw_in 1279 (by decide +kernel) (by decide +kernel)
theorem k_1280 : (Cond.instanceMethod ({ cls := "QuorumStoreModel", name := "count", desc := "(I)I" } : Jvm.MethodName)) ∈ xw_T := xw_in 1280 (by decide +kernel) (by decide +kernel)
theorem k_1281 : (Cond.selects "QuorumStoreModel" ({ cls := "QuorumStoreModel", name := "count", desc := "(I)I" } : Jvm.MethodName) ({ cls := "QuorumStoreModel", name := "count", desc := "(I)I" } : Jvm.MethodName)) ∈ xw_T := xw_in 1281 (by decide +kernel) (by decide +kernel)
theorem k_1282 : (Cond.code ({ cls := "QuorumStoreModel", name := "count", desc := "(I)I" } : Jvm.MethodName) prog_10_method_45_code (2 : Nat) (Option.some Jvm.ClassFile.FieldType.int)) ∈ xw_T := xw_in 1282 (by decide +kernel) (by decide +kernel)
theorem ks_0 : Cond.selects "java/lang/Throwable" ⟨"java/lang/Throwable", "fillInStackTrace", "(I)Ljava/lang/Throwable;"⟩ ⟨"java/lang/Throwable", "fillInStackTrace", "(I)Ljava/lang/Throwable;"⟩ ∈ xw_T := xw_se 0 (by decide +kernel) (by decide +kernel)
theorem ks_1 : Cond.selects "QuorumStore$Node" ⟨"QuorumStore$Node", "beat", "()V"⟩ ⟨"QuorumStore$Node", "beat", "()V"⟩ ∈ xw_T := xw_se 1 (by decide +kernel) (by decide +kernel)
theorem ks_2 : Cond.selects "QuorumStore$Node" ⟨"QuorumStore$Node", "peers", "()I"⟩ ⟨"QuorumStore$Node", "peers", "()I"⟩ ∈ xw_T := xw_se 2 (by decide +kernel) (by decide +kernel)
theorem ks_3 : Cond.selects "QuorumStore$Node" ⟨"QuorumStore$Node", "sendEach", "(IIIILQuorumStore$Value;)V"⟩ ⟨"QuorumStore$Node", "sendEach", "(IIIILQuorumStore$Value;)V"⟩ ∈ xw_T := xw_se 3 (by decide +kernel) (by decide +kernel)
theorem ks_4 : Cond.selects "QuorumStore$Node" ⟨"QuorumStore$Node", "rest", "()V"⟩ ⟨"QuorumStore$Node", "rest", "()V"⟩ ∈ xw_T := xw_se 4 (by decide +kernel) (by decide +kernel)
theorem ks_5 : Cond.selects "QuorumStore$Node" ⟨"QuorumStore$Node", "beginToLead", "()V"⟩ ⟨"QuorumStore$Node", "beginToLead", "()V"⟩ ∈ xw_T := xw_se 5 (by decide +kernel) (by decide +kernel)
theorem ks_6 : Cond.selects "QuorumStore$Row" ⟨"QuorumStore$Row", "clearPlace", "(I)V"⟩ ⟨"QuorumStore$Row", "clearPlace", "(I)V"⟩ ∈ xw_T := xw_se 6 (by decide +kernel) (by decide +kernel)
theorem ks_7 : Cond.selects "QuorumStore$Node" ⟨"QuorumStore$Node", "settle", "()V"⟩ ⟨"QuorumStore$Node", "settle", "()V"⟩ ∈ xw_T := xw_se 7 (by decide +kernel) (by decide +kernel)
theorem ks_8 : Cond.selects "QuorumStore$Node" ⟨"QuorumStore$Node", "openSlot", "()I"⟩ ⟨"QuorumStore$Node", "openSlot", "()I"⟩ ∈ xw_T := xw_se 8 (by decide +kernel) (by decide +kernel)
theorem ks_9 : Cond.selects "QuorumStore$Lead" ⟨"QuorumStore$Lead", "dequeue", "()LQuorumStore$Value;"⟩ ⟨"QuorumStore$Lead", "dequeue", "()LQuorumStore$Value;"⟩ ∈ xw_T := xw_se 9 (by decide +kernel) (by decide +kernel)
theorem ks_10 : Cond.selects "QuorumStore$Node" ⟨"QuorumStore$Node", "propose", "(ILQuorumStore$Value;)V"⟩ ⟨"QuorumStore$Node", "propose", "(ILQuorumStore$Value;)V"⟩ ∈ xw_T := xw_se 10 (by decide +kernel) (by decide +kernel)
theorem ks_11 : Cond.selects "QuorumStore$Node" ⟨"QuorumStore$Node", "chooseIfAcknowledged", "(I)V"⟩ ⟨"QuorumStore$Node", "chooseIfAcknowledged", "(I)V"⟩ ∈ xw_T := xw_se 11 (by decide +kernel) (by decide +kernel)
theorem ks_12 : Cond.selects "QuorumStore$Node" ⟨"QuorumStore$Node", "learn", "(ILQuorumStore$Value;)V"⟩ ⟨"QuorumStore$Node", "learn", "(ILQuorumStore$Value;)V"⟩ ∈ xw_T := xw_se 12 (by decide +kernel) (by decide +kernel)
theorem ks_13 : Cond.selects "QuorumStore$Node" ⟨"QuorumStore$Node", "applyKnown", "()V"⟩ ⟨"QuorumStore$Node", "applyKnown", "()V"⟩ ∈ xw_T := xw_se 13 (by decide +kernel) (by decide +kernel)
theorem ks_14 : Cond.selects "QuorumStore$State" ⟨"QuorumStore$State", "forgetConfigsBefore", "(I)V"⟩ ⟨"QuorumStore$State", "forgetConfigsBefore", "(I)V"⟩ ∈ xw_T := xw_se 14 (by decide +kernel) (by decide +kernel)
theorem ks_15 : Cond.selects "QuorumStore$State" ⟨"QuorumStore$State", "changeMembers", "(II)J"⟩ ⟨"QuorumStore$State", "changeMembers", "(II)J"⟩ ∈ xw_T := xw_se 15 (by decide +kernel) (by decide +kernel)
theorem ks_16 : Cond.selects "QuorumStore$State" ⟨"QuorumStore$State", "changeNumber", "(LQuorumStore$Value;)J"⟩ ⟨"QuorumStore$State", "changeNumber", "(LQuorumStore$Value;)J"⟩ ∈ xw_T := xw_se 16 (by decide +kernel) (by decide +kernel)
theorem ks_17 : Cond.selects "QuorumStore" ⟨"QuorumStore", "messageAt", "(I)LQuorumStore$Message;"⟩ ⟨"QuorumStore", "messageAt", "(I)LQuorumStore$Message;"⟩ ∈ xw_T := xw_se 17 (by decide +kernel) (by decide +kernel)
theorem ks_18 : Cond.selects "QuorumStore$Node" ⟨"QuorumStore$Node", "onPrepare", "(LQuorumStore$Message;)V"⟩ ⟨"QuorumStore$Node", "onPrepare", "(LQuorumStore$Message;)V"⟩ ∈ xw_T := xw_se 18 (by decide +kernel) (by decide +kernel)
theorem ks_19 : Cond.selects "QuorumStore$Node" ⟨"QuorumStore$Node", "rejects", "(LQuorumStore$Message;)Z"⟩ ⟨"QuorumStore$Node", "rejects", "(LQuorumStore$Message;)Z"⟩ ∈ xw_T := xw_se 19 (by decide +kernel) (by decide +kernel)
theorem ks_20 : Cond.selects "QuorumStore$Node" ⟨"QuorumStore$Node", "promise", "(I)V"⟩ ⟨"QuorumStore$Node", "promise", "(I)V"⟩ ∈ xw_T := xw_se 20 (by decide +kernel) (by decide +kernel)
theorem ks_21 : Cond.selects "QuorumStore$Node" ⟨"QuorumStore$Node", "stepDownBefore", "(I)V"⟩ ⟨"QuorumStore$Node", "stepDownBefore", "(I)V"⟩ ∈ xw_T := xw_se 21 (by decide +kernel) (by decide +kernel)
theorem ks_22 : Cond.selects "QuorumStore$Node" ⟨"QuorumStore$Node", "stepDown", "()V"⟩ ⟨"QuorumStore$Node", "stepDown", "()V"⟩ ∈ xw_T := xw_se 22 (by decide +kernel) (by decide +kernel)
theorem ks_23 : Cond.selects "QuorumStore$Node" ⟨"QuorumStore$Node", "onPromise", "(LQuorumStore$Message;)Z"⟩ ⟨"QuorumStore$Node", "onPromise", "(LQuorumStore$Message;)Z"⟩ ∈ xw_T := xw_se 23 (by decide +kernel) (by decide +kernel)
theorem ks_24 : Cond.selects "QuorumStore$Node" ⟨"QuorumStore$Node", "want", "(I)V"⟩ ⟨"QuorumStore$Node", "want", "(I)V"⟩ ∈ xw_T := xw_se 24 (by decide +kernel) (by decide +kernel)
theorem ks_25 : Cond.selects "QuorumStore$Node" ⟨"QuorumStore$Node", "onReject", "(LQuorumStore$Message;)V"⟩ ⟨"QuorumStore$Node", "onReject", "(LQuorumStore$Message;)V"⟩ ∈ xw_T := xw_se 25 (by decide +kernel) (by decide +kernel)
theorem ks_26 : Cond.selects "QuorumStore$Node" ⟨"QuorumStore$Node", "onAccept", "(LQuorumStore$Message;)V"⟩ ⟨"QuorumStore$Node", "onAccept", "(LQuorumStore$Message;)V"⟩ ∈ xw_T := xw_se 26 (by decide +kernel) (by decide +kernel)
theorem ks_27 : Cond.selects "QuorumStore$Node" ⟨"QuorumStore$Node", "follow", "(I)V"⟩ ⟨"QuorumStore$Node", "follow", "(I)V"⟩ ∈ xw_T := xw_se 27 (by decide +kernel) (by decide +kernel)
theorem ks_28 : Cond.selects "QuorumStore$Node" ⟨"QuorumStore$Node", "onAccepted", "(LQuorumStore$Message;)V"⟩ ⟨"QuorumStore$Node", "onAccepted", "(LQuorumStore$Message;)V"⟩ ∈ xw_T := xw_se 28 (by decide +kernel) (by decide +kernel)
theorem ks_29 : Cond.selects "QuorumStore$Node" ⟨"QuorumStore$Node", "onHeart", "(LQuorumStore$Message;)V"⟩ ⟨"QuorumStore$Node", "onHeart", "(LQuorumStore$Message;)V"⟩ ∈ xw_T := xw_se 29 (by decide +kernel) (by decide +kernel)
theorem ks_30 : Cond.selects "QuorumStore$Node" ⟨"QuorumStore$Node", "onWant", "(LQuorumStore$Message;)V"⟩ ⟨"QuorumStore$Node", "onWant", "(LQuorumStore$Message;)V"⟩ ∈ xw_T := xw_se 30 (by decide +kernel) (by decide +kernel)
theorem ks_31 : Cond.selects "QuorumStore$Node" ⟨"QuorumStore$Node", "onSnapshot", "(LQuorumStore$Message;)V"⟩ ⟨"QuorumStore$Node", "onSnapshot", "(LQuorumStore$Message;)V"⟩ ∈ xw_T := xw_se 31 (by decide +kernel) (by decide +kernel)
theorem ks_32 : Cond.selects "QuorumStore" ⟨"QuorumStore", "nodeAt", "(I)LQuorumStore$Node;"⟩ ⟨"QuorumStore", "nodeAt", "(I)LQuorumStore$Node;"⟩ ∈ xw_T := xw_se 32 (by decide +kernel) (by decide +kernel)
theorem ks_33 : Cond.selects "QuorumStoreModel" ⟨"QuorumStoreModel", "fail", "(I)I"⟩ ⟨"QuorumStoreModel", "fail", "(I)I"⟩ ∈ xw_T := xw_se 33 (by decide +kernel) (by decide +kernel)
theorem ks_34 : Cond.selects "QuorumStoreModel" ⟨"QuorumStoreModel", "tickOnce", "(LQuorumStoreModel$Node;)V"⟩ ⟨"QuorumStoreModel", "tickOnce", "(LQuorumStoreModel$Node;)V"⟩ ∈ xw_T := xw_se 34 (by decide +kernel) (by decide +kernel)
theorem ks_35 : Cond.selects "QuorumStoreModel" ⟨"QuorumStoreModel", "lead", "(LQuorumStoreModel$Node;)V"⟩ ⟨"QuorumStoreModel", "lead", "(LQuorumStoreModel$Node;)V"⟩ ∈ xw_T := xw_se 35 (by decide +kernel) (by decide +kernel)
theorem ks_36 : Cond.selects "QuorumStoreModel$Slots" ⟨"QuorumStoreModel$Slots", "grow", "()V"⟩ ⟨"QuorumStoreModel$Slots", "grow", "()V"⟩ ∈ xw_T := xw_se 36 (by decide +kernel) (by decide +kernel)
theorem ks_37 : Cond.selects "QuorumStoreModel$Slots" ⟨"QuorumStoreModel$Slots", "move", "(II)V"⟩ ⟨"QuorumStoreModel$Slots", "move", "(II)V"⟩ ∈ xw_T := xw_se 37 (by decide +kernel) (by decide +kernel)
theorem ks_38 : Cond.selects "QuorumStoreModel" ⟨"QuorumStoreModel", "say", "(ILQuorumStoreModel$Node;IIILQuorumStoreModel$Value;)V"⟩ ⟨"QuorumStoreModel", "say", "(ILQuorumStoreModel$Node;IIILQuorumStoreModel$Value;)V"⟩ ∈ xw_T := xw_se 38 (by decide +kernel) (by decide +kernel)
theorem ks_39 : Cond.selects "QuorumStoreModel" ⟨"QuorumStoreModel", "begin", "(ILQuorumStoreModel$Node;III)LQuorumStoreModel$Message;"⟩ ⟨"QuorumStoreModel", "begin", "(ILQuorumStoreModel$Node;III)LQuorumStoreModel$Message;"⟩ ∈ xw_T := xw_se 39 (by decide +kernel) (by decide +kernel)
theorem ks_40 : Cond.selects "QuorumStoreModel" ⟨"QuorumStoreModel", "send", "(LQuorumStoreModel$Message;)V"⟩ ⟨"QuorumStoreModel", "send", "(LQuorumStoreModel$Message;)V"⟩ ∈ xw_T := xw_se 40 (by decide +kernel) (by decide +kernel)
theorem ks_41 : Cond.selects "QuorumStoreModel" ⟨"QuorumStoreModel", "work", "(LQuorumStoreModel$Node;)V"⟩ ⟨"QuorumStoreModel", "work", "(LQuorumStoreModel$Node;)V"⟩ ∈ xw_T := xw_se 41 (by decide +kernel) (by decide +kernel)
theorem ks_42 : Cond.selects "QuorumStoreModel" ⟨"QuorumStoreModel", "propose", "(LQuorumStoreModel$Node;ILQuorumStoreModel$Value;)V"⟩ ⟨"QuorumStoreModel", "propose", "(LQuorumStoreModel$Node;ILQuorumStoreModel$Value;)V"⟩ ∈ xw_T := xw_se 42 (by decide +kernel) (by decide +kernel)
theorem ks_43 : Cond.selects "QuorumStoreModel" ⟨"QuorumStoreModel", "chosen", "(LQuorumStoreModel$Node;I)V"⟩ ⟨"QuorumStoreModel", "chosen", "(LQuorumStoreModel$Node;I)V"⟩ ∈ xw_T := xw_se 43 (by decide +kernel) (by decide +kernel)
theorem ks_44 : Cond.selects "QuorumStoreModel" ⟨"QuorumStoreModel", "learn", "(LQuorumStoreModel$Node;ILQuorumStoreModel$Value;)V"⟩ ⟨"QuorumStoreModel", "learn", "(LQuorumStoreModel$Node;ILQuorumStoreModel$Value;)V"⟩ ∈ xw_T := xw_se 44 (by decide +kernel) (by decide +kernel)
theorem ks_45 : Cond.selects "QuorumStoreModel" ⟨"QuorumStoreModel", "apply", "(LQuorumStoreModel$Node;)Z"⟩ ⟨"QuorumStoreModel", "apply", "(LQuorumStoreModel$Node;)Z"⟩ ∈ xw_T := xw_se 45 (by decide +kernel) (by decide +kernel)
theorem ks_46 : Cond.selects "QuorumStoreModel" ⟨"QuorumStoreModel", "done", "(LQuorumStoreModel$State;LQuorumStoreModel$Value;)V"⟩ ⟨"QuorumStoreModel", "done", "(LQuorumStoreModel$State;LQuorumStoreModel$Value;)V"⟩ ∈ xw_T := xw_se 46 (by decide +kernel) (by decide +kernel)
theorem ks_47 : Cond.selects "QuorumStoreModel" ⟨"QuorumStoreModel", "grown", "(LQuorumStoreModel$Node;I)V"⟩ ⟨"QuorumStoreModel", "grown", "(LQuorumStoreModel$Node;I)V"⟩ ∈ xw_T := xw_se 47 (by decide +kernel) (by decide +kernel)
theorem ks_48 : Cond.selects "QuorumStoreModel" ⟨"QuorumStoreModel", "none", "(I)Z"⟩ ⟨"QuorumStoreModel", "none", "(I)Z"⟩ ∈ xw_T := xw_se 48 (by decide +kernel) (by decide +kernel)
theorem ks_49 : Cond.selects "QuorumStoreModel" ⟨"QuorumStoreModel", "removed", "(I)V"⟩ ⟨"QuorumStoreModel", "removed", "(I)V"⟩ ∈ xw_T := xw_se 49 (by decide +kernel) (by decide +kernel)
theorem ks_50 : Cond.selects "QuorumStoreModel" ⟨"QuorumStoreModel", "came", "(LQuorumStoreModel$Node;LQuorumStoreModel$Message;)V"⟩ ⟨"QuorumStoreModel", "came", "(LQuorumStoreModel$Node;LQuorumStoreModel$Message;)V"⟩ ∈ xw_T := xw_se 50 (by decide +kernel) (by decide +kernel)
theorem ks_51 : Cond.selects "QuorumStoreModel" ⟨"QuorumStoreModel", "old", "(LQuorumStoreModel$Node;LQuorumStoreModel$Message;)Z"⟩ ⟨"QuorumStoreModel", "old", "(LQuorumStoreModel$Node;LQuorumStoreModel$Message;)Z"⟩ ∈ xw_T := xw_se 51 (by decide +kernel) (by decide +kernel)
theorem ks_52 : Cond.selects "QuorumStoreModel" ⟨"QuorumStoreModel", "fresh", "(LQuorumStoreModel$Node;I)V"⟩ ⟨"QuorumStoreModel", "fresh", "(LQuorumStoreModel$Node;I)V"⟩ ∈ xw_T := xw_se 52 (by decide +kernel) (by decide +kernel)
theorem ks_53 : Cond.selects "QuorumStoreModel" ⟨"QuorumStoreModel", "want", "(LQuorumStoreModel$Node;I)V"⟩ ⟨"QuorumStoreModel", "want", "(LQuorumStoreModel$Node;I)V"⟩ ∈ xw_T := xw_se 53 (by decide +kernel) (by decide +kernel)
theorem ks_54 : Cond.selects "QuorumStoreModel" ⟨"QuorumStoreModel", "wanted", "(LQuorumStoreModel$Node;LQuorumStoreModel$Message;)V"⟩ ⟨"QuorumStoreModel", "wanted", "(LQuorumStoreModel$Node;LQuorumStoreModel$Message;)V"⟩ ∈ xw_T := xw_se 54 (by decide +kernel) (by decide +kernel)
theorem ks_55 : Cond.selects "QuorumStoreModel" ⟨"QuorumStoreModel", "snapshot", "(LQuorumStoreModel$Node;LQuorumStoreModel$Message;)V"⟩ ⟨"QuorumStoreModel", "snapshot", "(LQuorumStoreModel$Node;LQuorumStoreModel$Message;)V"⟩ ∈ xw_T := xw_se 55 (by decide +kernel) (by decide +kernel)
abbrev y_Q_init : MethodName := ⟨"QuorumStore", "<init>", "(I)V"⟩
abbrev c_Q_init : ByteArray := prog_1_method_1_code
theorem m_Q_init : xm_ok y_Q_init c_Q_init 5 (Option.none : Option FieldType) 1 := ⟨k_28, k_1, by decide +kernel⟩
abbrev y_Q_tick : MethodName := ⟨"QuorumStore", "tick", "(I)I"⟩
abbrev c_Q_tick : ByteArray := prog_1_method_2_code
theorem m_Q_tick : xm_ok y_Q_tick c_Q_tick 4 (Option.some FieldType.int) 1 := ⟨k_279, k_1, by decide +kernel⟩
abbrev y_Q_deliver : MethodName := ⟨"QuorumStore", "deliver", "(I)I"⟩
abbrev c_Q_deliver : ByteArray := prog_1_method_3_code
theorem m_Q_deliver : xm_ok y_Q_deliver c_Q_deliver 4 (Option.some FieldType.int) 1 := ⟨k_548, k_1, by decide +kernel⟩
abbrev y_Q_drop : MethodName := ⟨"QuorumStore", "drop", "(I)I"⟩
abbrev c_Q_drop : ByteArray := prog_1_method_4_code
theorem m_Q_drop : xm_ok y_Q_drop c_Q_drop 2 (Option.some FieldType.int) 1 := ⟨k_658, k_1, by decide +kernel⟩
abbrev y_Q_copy : MethodName := ⟨"QuorumStore", "copy", "(I)I"⟩
abbrev c_Q_copy : ByteArray := prog_1_method_5_code
theorem m_Q_copy : xm_ok y_Q_copy c_Q_copy 3 (Option.some FieldType.int) 1 := ⟨k_666, k_1, by decide +kernel⟩
abbrev y_Q_message : MethodName := ⟨"QuorumStore", "message", "(II)I"⟩
abbrev c_Q_message : ByteArray := prog_1_method_6_code
theorem m_Q_message : xm_ok y_Q_message c_Q_message 4 (Option.some FieldType.int) 2 := ⟨k_697, k_1, by decide +kernel⟩
abbrev y_Q_fall : MethodName := ⟨"QuorumStore", "fall", "(I)V"⟩
abbrev c_Q_fall : ByteArray := prog_1_method_7_code
theorem m_Q_fall : xm_ok y_Q_fall c_Q_fall 3 (Option.none : Option FieldType) 1 := ⟨k_709, k_1, by decide +kernel⟩
abbrev y_Q_rise : MethodName := ⟨"QuorumStore", "rise", "(I)V"⟩
abbrev c_Q_rise : ByteArray := prog_1_method_8_code
theorem m_Q_rise : xm_ok y_Q_rise c_Q_rise 3 (Option.none : Option FieldType) 1 := ⟨k_726, k_1, by decide +kernel⟩
abbrev y_Q_key : MethodName := ⟨"QuorumStore", "key", "(I)I"⟩
abbrev c_Q_key : ByteArray := prog_1_method_9_code
theorem m_Q_key : xm_ok y_Q_key c_Q_key 3 (Option.some FieldType.int) 1 := ⟨k_738, k_1, by decide +kernel⟩
abbrev y_Q_ask : MethodName := ⟨"QuorumStore", "ask", "(IIIIII)I"⟩
abbrev c_Q_ask : ByteArray := prog_1_method_10_code
theorem m_Q_ask : xm_ok y_Q_ask c_Q_ask 9 (Option.some FieldType.int) 6 := ⟨k_746, k_1, by decide +kernel⟩
abbrev y_Q_answer : MethodName := ⟨"QuorumStore", "answer", "(III)J"⟩
abbrev c_Q_answer : ByteArray := prog_1_method_11_code
theorem m_Q_answer : xm_ok y_Q_answer c_Q_answer 5 (Option.some FieldType.long) 3 := ⟨k_783, k_1, by decide +kernel⟩
abbrev y_Q_number : MethodName := ⟨"QuorumStore", "number", "(II)J"⟩
abbrev c_Q_number : ByteArray := prog_1_method_12_code
theorem m_Q_number : xm_ok y_Q_number c_Q_number 4 (Option.some FieldType.long) 2 := ⟨k_791, k_1, by decide +kernel⟩
abbrev y_Q_known : MethodName := ⟨"QuorumStore", "known", "(III)I"⟩
abbrev c_Q_known : ByteArray := prog_1_method_13_code
theorem m_Q_known : xm_ok y_Q_known c_Q_known 5 (Option.some FieldType.int) 3 := ⟨k_799, k_1, by decide +kernel⟩
abbrev y_Q_about : MethodName := ⟨"QuorumStore", "about", "(II)I"⟩
abbrev c_Q_about : ByteArray := prog_1_method_14_code
theorem m_Q_about : xm_ok y_Q_about c_Q_about 4 (Option.some FieldType.int) 2 := ⟨k_808, k_1, by decide +kernel⟩
abbrev y_Q_count : MethodName := ⟨"QuorumStore", "count", "(I)I"⟩
abbrev c_Q_count : ByteArray := prog_1_method_15_code
theorem m_Q_count : xm_ok y_Q_count c_Q_count 2 (Option.some FieldType.int) 1 := ⟨k_268, k_1, by decide +kernel⟩
abbrev y_Q_nodeAt : MethodName := ⟨"QuorumStore", "nodeAt", "(I)LQuorumStore$Node;"⟩
abbrev c_Q_nodeAt : ByteArray := prog_1_method_16_code
theorem m_Q_nodeAt : xm_ok y_Q_nodeAt c_Q_nodeAt 2 (Option.some (FieldType.object "QuorumStore$Node")) 1 := ⟨k_713, k_1, by decide +kernel⟩
abbrev y_Q_messageAt : MethodName := ⟨"QuorumStore", "messageAt", "(I)LQuorumStore$Message;"⟩
abbrev c_Q_messageAt : ByteArray := prog_1_method_17_code
theorem m_Q_messageAt : xm_ok y_Q_messageAt c_Q_messageAt 2 (Option.some (FieldType.object "QuorumStore$Message")) 1 := ⟨k_552, k_1, by decide +kernel⟩
abbrev y_Q_checkClient : MethodName := ⟨"QuorumStore", "checkClient", "(I)V"⟩
abbrev c_Q_checkClient : ByteArray := prog_1_method_18_code
theorem m_Q_checkClient : xm_ok y_Q_checkClient c_Q_checkClient 1 (Option.none : Option FieldType) 1 := ⟨k_749, k_1, by decide +kernel⟩
abbrev y_Q_isIn : MethodName := ⟨"QuorumStore", "isIn", "(II)Z"⟩
abbrev c_Q_isIn : ByteArray := prog_1_method_19_code
theorem m_Q_isIn : xm_ok y_Q_isIn c_Q_isIn 2 (Option.some FieldType.boolean) 2 := ⟨k_370, k_1, by decide +kernel⟩
abbrev y_Q_isMajority : MethodName := ⟨"QuorumStore", "isMajority", "(II)Z"⟩
abbrev c_Q_isMajority : ByteArray := prog_1_method_20_code
theorem m_Q_isMajority : xm_ok y_Q_isMajority c_Q_isMajority 2 (Option.some FieldType.boolean) 2 := ⟨k_484, k_1, by decide +kernel⟩
abbrev y_P_init : MethodName := ⟨"QuorumStoreModel", "<init>", "(I)V"⟩
abbrev c_P_init : ByteArray := prog_10_method_1_code
theorem m_P_init : xm_ok y_P_init c_P_init 3 (Option.none : Option FieldType) 1 := ⟨k_815, k_8, by decide +kernel⟩
abbrev y_P_thrown : MethodName := ⟨"QuorumStoreModel", "thrown", "()I"⟩
abbrev c_P_thrown : ByteArray := prog_10_method_2_code
theorem m_P_thrown : xm_ok y_P_thrown c_P_thrown 1 (Option.some FieldType.int) 0 := ⟨k_1029, k_8, by decide +kernel⟩
abbrev y_P_fail : MethodName := ⟨"QuorumStoreModel", "fail", "(I)I"⟩
abbrev c_P_fail : ByteArray := prog_10_method_3_code
theorem m_P_fail : xm_ok y_P_fail c_P_fail 2 (Option.some FieldType.int) 1 := ⟨k_1037, k_8, by decide +kernel⟩
abbrev y_P_send : MethodName := ⟨"QuorumStoreModel", "send", "(LQuorumStoreModel$Message;)V"⟩
abbrev c_P_send : ByteArray := prog_10_method_4_code
theorem m_P_send : xm_ok y_P_send c_P_send 2 (Option.none : Option FieldType) 1 := ⟨k_1091, k_8, by decide +kernel⟩
abbrev y_P_begin : MethodName := ⟨"QuorumStoreModel", "begin", "(ILQuorumStoreModel$Node;III)LQuorumStoreModel$Message;"⟩
abbrev c_P_begin : ByteArray := prog_10_method_5_code
theorem m_P_begin : xm_ok y_P_begin c_P_begin 6 (Option.some (FieldType.object "QuorumStoreModel$Message")) 5 := ⟨k_1087, k_8, by decide +kernel⟩
abbrev y_P_say : MethodName := ⟨"QuorumStoreModel", "say", "(ILQuorumStoreModel$Node;IIILQuorumStoreModel$Value;)V"⟩
abbrev c_P_say : ByteArray := prog_10_method_6_code
theorem m_P_say : xm_ok y_P_say c_P_say 7 (Option.none : Option FieldType) 6 := ⟨k_1083, k_8, by decide +kernel⟩
abbrev y_P_in : MethodName := ⟨"QuorumStoreModel", "in", "(II)Z"⟩
abbrev c_P_in : ByteArray := prog_10_method_7_code
theorem m_P_in : xm_ok y_P_in c_P_in 2 (Option.some FieldType.boolean) 2 := ⟨k_1048, k_8, by decide +kernel⟩
abbrev y_P_majority : MethodName := ⟨"QuorumStoreModel", "majority", "(II)Z"⟩
abbrev c_P_majority : ByteArray := prog_10_method_8_code
theorem m_P_majority : xm_ok y_P_majority c_P_majority 5 (Option.some FieldType.boolean) 2 := ⟨k_1112, k_8, by decide +kernel⟩
abbrev y_P_peers : MethodName := ⟨"QuorumStoreModel", "peers", "(LQuorumStoreModel$Node;)I"⟩
abbrev c_P_peers : ByteArray := prog_10_method_9_code
theorem m_P_peers : xm_ok y_P_peers c_P_peers 3 (Option.some FieldType.int) 1 := ⟨k_1079, k_8, by decide +kernel⟩
abbrev y_P_apply : MethodName := ⟨"QuorumStoreModel", "apply", "(LQuorumStoreModel$Node;)Z"⟩
abbrev c_P_apply : ByteArray := prog_10_method_10_code
theorem m_P_apply : xm_ok y_P_apply c_P_apply 5 (Option.some FieldType.boolean) 1 := ⟨k_1137, k_8, by decide +kernel⟩
abbrev y_P_done : MethodName := ⟨"QuorumStoreModel", "done", "(LQuorumStoreModel$State;LQuorumStoreModel$Value;)V"⟩
abbrev c_P_done : ByteArray := prog_10_method_11_code
theorem m_P_done : xm_ok y_P_done c_P_done 7 (Option.none : Option FieldType) 2 := ⟨k_1145, k_8, by decide +kernel⟩
abbrev y_P_learn : MethodName := ⟨"QuorumStoreModel", "learn", "(LQuorumStoreModel$Node;ILQuorumStoreModel$Value;)V"⟩
abbrev c_P_learn : ByteArray := prog_10_method_12_code
theorem m_P_learn : xm_ok y_P_learn c_P_learn 6 (Option.none : Option FieldType) 3 := ⟨k_1133, k_8, by decide +kernel⟩
abbrev y_P_grown : MethodName := ⟨"QuorumStoreModel", "grown", "(LQuorumStoreModel$Node;I)V"⟩
abbrev c_P_grown : ByteArray := prog_10_method_13_code
theorem m_P_grown : xm_ok y_P_grown c_P_grown 5 (Option.none : Option FieldType) 2 := ⟨k_1155, k_8, by decide +kernel⟩
abbrev y_P_round : MethodName := ⟨"QuorumStoreModel", "round", "(I)I"⟩
abbrev c_P_round : ByteArray := prog_10_method_14_code
theorem m_P_round : xm_ok y_P_round c_P_round 1 (Option.some FieldType.int) 1 := ⟨k_1055, k_8, by decide +kernel⟩
abbrev y_P_lead : MethodName := ⟨"QuorumStoreModel", "lead", "(LQuorumStoreModel$Node;)V"⟩
abbrev c_P_lead : ByteArray := prog_10_method_15_code
theorem m_P_lead : xm_ok y_P_lead c_P_lead 5 (Option.none : Option FieldType) 1 := ⟨k_1052, k_8, by decide +kernel⟩
abbrev y_P_looked : MethodName := ⟨"QuorumStoreModel", "looked", "(LQuorumStoreModel$Node;LQuorumStoreModel$Slots;)V"⟩
abbrev c_P_looked : ByteArray := prog_10_method_16_code
theorem m_P_looked : xm_ok y_P_looked c_P_looked 5 (Option.none : Option FieldType) 2 := ⟨k_1059, k_8, by decide +kernel⟩
abbrev y_P_down : MethodName := ⟨"QuorumStoreModel", "down", "(LQuorumStoreModel$Node;)V"⟩
abbrev c_P_down : ByteArray := prog_10_method_17_code
theorem m_P_down : xm_ok y_P_down c_P_down 1 (Option.none : Option FieldType) 1 := ⟨k_1182, k_8, by decide +kernel⟩
abbrev y_P_greater : MethodName := ⟨"QuorumStoreModel", "greater", "(LQuorumStoreModel$Slots;I)Z"⟩
abbrev c_P_greater : ByteArray := prog_10_method_18_code
theorem m_P_greater : xm_ok y_P_greater c_P_greater 2 (Option.some FieldType.boolean) 2 := ⟨k_1115, k_8, by decide +kernel⟩
abbrev y_P_work : MethodName := ⟨"QuorumStoreModel", "work", "(LQuorumStoreModel$Node;)V"⟩
abbrev c_P_work : ByteArray := prog_10_method_19_code
theorem m_P_work : xm_ok y_P_work c_P_work 7 (Option.none : Option FieldType) 1 := ⟨k_1109, k_8, by decide +kernel⟩
abbrev y_P_propose : MethodName := ⟨"QuorumStoreModel", "propose", "(LQuorumStoreModel$Node;ILQuorumStoreModel$Value;)V"⟩
abbrev c_P_propose : ByteArray := prog_10_method_20_code
theorem m_P_propose : xm_ok y_P_propose c_P_propose 7 (Option.none : Option FieldType) 3 := ⟨k_1121, k_8, by decide +kernel⟩
abbrev y_P_chosen : MethodName := ⟨"QuorumStoreModel", "chosen", "(LQuorumStoreModel$Node;I)V"⟩
abbrev c_P_chosen : ByteArray := prog_10_method_21_code
theorem m_P_chosen : xm_ok y_P_chosen c_P_chosen 7 (Option.none : Option FieldType) 2 := ⟨k_1125, k_8, by decide +kernel⟩
abbrev y_P_tickOnce : MethodName := ⟨"QuorumStoreModel", "tickOnce", "(LQuorumStoreModel$Node;)V"⟩
abbrev c_P_tickOnce : ByteArray := prog_10_method_22_code
theorem m_P_tickOnce : xm_ok y_P_tickOnce c_P_tickOnce 7 (Option.none : Option FieldType) 1 := ⟨k_1041, k_8, by decide +kernel⟩
abbrev y_P_old : MethodName := ⟨"QuorumStoreModel", "old", "(LQuorumStoreModel$Node;LQuorumStoreModel$Message;)Z"⟩
abbrev c_P_old : ByteArray := prog_10_method_23_code
theorem m_P_old : xm_ok y_P_old c_P_old 3 (Option.some FieldType.boolean) 2 := ⟨k_1175, k_8, by decide +kernel⟩
abbrev y_P_fresh : MethodName := ⟨"QuorumStoreModel", "fresh", "(LQuorumStoreModel$Node;I)V"⟩
abbrev c_P_fresh : ByteArray := prog_10_method_24_code
theorem m_P_fresh : xm_ok y_P_fresh c_P_fresh 3 (Option.none : Option FieldType) 2 := ⟨k_1179, k_8, by decide +kernel⟩
abbrev y_P_want : MethodName := ⟨"QuorumStoreModel", "want", "(LQuorumStoreModel$Node;I)V"⟩
abbrev c_P_want : ByteArray := prog_10_method_25_code
theorem m_P_want : xm_ok y_P_want c_P_want 3 (Option.none : Option FieldType) 2 := ⟨k_1187, k_8, by decide +kernel⟩
abbrev y_P_came : MethodName := ⟨"QuorumStoreModel", "came", "(LQuorumStoreModel$Node;LQuorumStoreModel$Message;)V"⟩
abbrev c_P_came : ByteArray := prog_10_method_26_code
theorem m_P_came : xm_ok y_P_came c_P_came 5 (Option.none : Option FieldType) 2 := ⟨k_1171, k_8, by decide +kernel⟩
abbrev y_P_wanted : MethodName := ⟨"QuorumStoreModel", "wanted", "(LQuorumStoreModel$Node;LQuorumStoreModel$Message;)V"⟩
abbrev c_P_wanted : ByteArray := prog_10_method_27_code
theorem m_P_wanted : xm_ok y_P_wanted c_P_wanted 6 (Option.none : Option FieldType) 2 := ⟨k_1191, k_8, by decide +kernel⟩
abbrev y_P_snapshot : MethodName := ⟨"QuorumStoreModel", "snapshot", "(LQuorumStoreModel$Node;LQuorumStoreModel$Message;)V"⟩
abbrev c_P_snapshot : ByteArray := prog_10_method_28_code
theorem m_P_snapshot : xm_ok y_P_snapshot c_P_snapshot 4 (Option.none : Option FieldType) 2 := ⟨k_1200, k_8, by decide +kernel⟩
abbrev y_P_tick : MethodName := ⟨"QuorumStoreModel", "tick", "(I)I"⟩
abbrev c_P_tick : ByteArray := prog_10_method_29_code
theorem m_P_tick : xm_ok y_P_tick c_P_tick 4 (Option.some FieldType.int) 1 := ⟨k_1033, k_8, by decide +kernel⟩
abbrev y_P_none : MethodName := ⟨"QuorumStoreModel", "none", "(I)Z"⟩
abbrev c_P_none : ByteArray := prog_10_method_30_code
theorem m_P_none : xm_ok y_P_none c_P_none 2 (Option.some FieldType.boolean) 1 := ⟨k_1163, k_8, by decide +kernel⟩
abbrev y_P_removed : MethodName := ⟨"QuorumStoreModel", "removed", "(I)V"⟩
abbrev c_P_removed : ByteArray := prog_10_method_31_code
theorem m_P_removed : xm_ok y_P_removed c_P_removed 4 (Option.none : Option FieldType) 1 := ⟨k_1167, k_8, by decide +kernel⟩
abbrev y_P_deliver : MethodName := ⟨"QuorumStoreModel", "deliver", "(I)I"⟩
abbrev c_P_deliver : ByteArray := prog_10_method_32_code
theorem m_P_deliver : xm_ok y_P_deliver c_P_deliver 3 (Option.some FieldType.int) 1 := ⟨k_1159, k_8, by decide +kernel⟩
abbrev y_P_drop : MethodName := ⟨"QuorumStoreModel", "drop", "(I)I"⟩
abbrev c_P_drop : ByteArray := prog_10_method_33_code
theorem m_P_drop : xm_ok y_P_drop c_P_drop 2 (Option.some FieldType.int) 1 := ⟨k_1204, k_8, by decide +kernel⟩
abbrev y_P_copy : MethodName := ⟨"QuorumStoreModel", "copy", "(I)I"⟩
abbrev c_P_copy : ByteArray := prog_10_method_34_code
theorem m_P_copy : xm_ok y_P_copy c_P_copy 2 (Option.some FieldType.int) 1 := ⟨k_1208, k_8, by decide +kernel⟩
abbrev y_P_message : MethodName := ⟨"QuorumStoreModel", "message", "(II)I"⟩
abbrev c_P_message : ByteArray := prog_10_method_35_code
theorem m_P_message : xm_ok y_P_message c_P_message 4 (Option.some FieldType.int) 2 := ⟨k_1212, k_8, by decide +kernel⟩
abbrev y_P_noNode : MethodName := ⟨"QuorumStoreModel", "noNode", "(I)Z"⟩
abbrev c_P_noNode : ByteArray := prog_10_method_36_code
theorem m_P_noNode : xm_ok y_P_noNode c_P_noNode 1 (Option.some FieldType.boolean) 1 := ⟨k_1219, k_8, by decide +kernel⟩
abbrev y_P_fall : MethodName := ⟨"QuorumStoreModel", "fall", "(I)V"⟩
abbrev c_P_fall : ByteArray := prog_10_method_37_code
theorem m_P_fall : xm_ok y_P_fall c_P_fall 3 (Option.none : Option FieldType) 1 := ⟨k_1216, k_8, by decide +kernel⟩
abbrev y_P_rise : MethodName := ⟨"QuorumStoreModel", "rise", "(I)V"⟩
abbrev c_P_rise : ByteArray := prog_10_method_38_code
theorem m_P_rise : xm_ok y_P_rise c_P_rise 2 (Option.none : Option FieldType) 1 := ⟨k_1223, k_8, by decide +kernel⟩
abbrev y_P_key : MethodName := ⟨"QuorumStoreModel", "key", "(I)I"⟩
abbrev c_P_key : ByteArray := prog_10_method_39_code
theorem m_P_key : xm_ok y_P_key c_P_key 3 (Option.some FieldType.int) 1 := ⟨k_1227, k_8, by decide +kernel⟩
abbrev y_P_ask : MethodName := ⟨"QuorumStoreModel", "ask", "(IIIIII)I"⟩
abbrev c_P_ask : ByteArray := prog_10_method_40_code
theorem m_P_ask : xm_ok y_P_ask c_P_ask 9 (Option.some FieldType.int) 6 := ⟨k_1231, k_8, by decide +kernel⟩
abbrev y_P_answer : MethodName := ⟨"QuorumStoreModel", "answer", "(III)J"⟩
abbrev c_P_answer : ByteArray := prog_10_method_41_code
theorem m_P_answer : xm_ok y_P_answer c_P_answer 4 (Option.some FieldType.long) 3 := ⟨k_1266, k_8, by decide +kernel⟩
abbrev y_P_number : MethodName := ⟨"QuorumStoreModel", "number", "(II)J"⟩
abbrev c_P_number : ByteArray := prog_10_method_42_code
theorem m_P_number : xm_ok y_P_number c_P_number 3 (Option.some FieldType.long) 2 := ⟨k_1270, k_8, by decide +kernel⟩
abbrev y_P_known : MethodName := ⟨"QuorumStoreModel", "known", "(III)I"⟩
abbrev c_P_known : ByteArray := prog_10_method_43_code
theorem m_P_known : xm_ok y_P_known c_P_known 6 (Option.some FieldType.int) 3 := ⟨k_1274, k_8, by decide +kernel⟩
abbrev y_P_about : MethodName := ⟨"QuorumStoreModel", "about", "(II)I"⟩
abbrev c_P_about : ByteArray := prog_10_method_44_code
theorem m_P_about : xm_ok y_P_about c_P_about 4 (Option.some FieldType.int) 2 := ⟨k_1278, k_8, by decide +kernel⟩
abbrev y_P_count : MethodName := ⟨"QuorumStoreModel", "count", "(I)I"⟩
abbrev c_P_count : ByteArray := prog_10_method_45_code
theorem m_P_count : xm_ok y_P_count c_P_count 2 (Option.some FieldType.int) 1 := ⟨k_1282, k_8, by decide +kernel⟩
abbrev y_L_init : MethodName := ⟨"QuorumStore$Lead", "<init>", "()V"⟩
abbrev c_L_init : ByteArray := prog_2_method_1_code
theorem m_L_init : xm_ok y_L_init c_L_init 1 (Option.none : Option FieldType) 0 := ⟨k_91, k_5, by decide +kernel⟩
abbrev y_L_clear : MethodName := ⟨"QuorumStore$Lead", "clear", "()V"⟩
abbrev c_L_clear : ByteArray := prog_2_method_2_code
theorem m_L_clear : xm_ok y_L_clear c_L_clear 2 (Option.none : Option FieldType) 0 := ⟨k_447, k_5, by decide +kernel⟩
abbrev y_L_lookAt : MethodName := ⟨"QuorumStore$Lead", "lookAt", "(LQuorumStore$Row;I)V"⟩
abbrev c_L_lookAt : ByteArray := prog_2_method_3_code
theorem m_L_lookAt : xm_ok y_L_lookAt c_L_lookAt 4 (Option.none : Option FieldType) 2 := ⟨k_459, k_5, by decide +kernel⟩
abbrev y_L_valueFor : MethodName := ⟨"QuorumStore$Lead", "valueFor", "(I)LQuorumStore$Value;"⟩
abbrev c_L_valueFor : ByteArray := prog_2_method_4_code
theorem m_L_valueFor : xm_ok y_L_valueFor c_L_valueFor 3 (Option.some (FieldType.object "QuorumStore$Value")) 1 := ⟨k_494, k_5, by decide +kernel⟩
abbrev y_L_isQueueFull : MethodName := ⟨"QuorumStore$Lead", "isQueueFull", "()Z"⟩
abbrev c_L_isQueueFull : ByteArray := prog_2_method_5_code
theorem m_L_isQueueFull : xm_ok y_L_isQueueFull c_L_isQueueFull 1 (Option.some FieldType.boolean) 0 := ⟨k_766, k_5, by decide +kernel⟩
abbrev y_L_enqueue : MethodName := ⟨"QuorumStore$Lead", "enqueue", "(LQuorumStore$Value;)V"⟩
abbrev c_L_enqueue : ByteArray := prog_2_method_6_code
theorem m_L_enqueue : xm_ok y_L_enqueue c_L_enqueue 2 (Option.none : Option FieldType) 1 := ⟨k_776, k_5, by decide +kernel⟩
abbrev y_L_dequeue : MethodName := ⟨"QuorumStore$Lead", "dequeue", "()LQuorumStore$Value;"⟩
abbrev c_L_dequeue : ByteArray := prog_2_method_7_code
theorem m_L_dequeue : xm_ok y_L_dequeue c_L_dequeue 3 (Option.some (FieldType.object "QuorumStore$Value")) 0 := ⟨k_503, k_5, by decide +kernel⟩
abbrev y_L_isPending : MethodName := ⟨"QuorumStore$Lead", "isPending", "(II)Z"⟩
abbrev c_L_isPending : ByteArray := prog_2_method_8_code
theorem m_L_isPending : xm_ok y_L_isPending c_L_isPending 3 (Option.some FieldType.boolean) 2 := ⟨k_759, k_5, by decide +kernel⟩
abbrev y_L_isAmong : MethodName := ⟨"QuorumStore$Lead", "isAmong", "([LQuorumStore$Value;II)Z"⟩
abbrev c_L_isAmong : ByteArray := prog_2_method_9_code
theorem m_L_isAmong : xm_ok y_L_isAmong c_L_isAmong 7 (Option.some FieldType.boolean) 3 := ⟨k_762, k_5, by decide +kernel⟩
abbrev y_M_init : MethodName := ⟨"QuorumStore$Message", "<init>", "(IIIIILQuorumStore$Value;)V"⟩
abbrev c_M_init : ByteArray := prog_3_method_1_code
theorem m_M_init : xm_ok y_M_init c_M_init 7 (Option.none : Option FieldType) 6 := ⟨k_378, k_17, by decide +kernel⟩
abbrev y_N_init : MethodName := ⟨"QuorumStore$Network", "<init>", "()V"⟩
abbrev c_N_init : ByteArray := prog_4_method_1_code
theorem m_N_init : xm_ok y_N_init c_N_init 1 (Option.none : Option FieldType) 0 := ⟨k_36, k_2, by decide +kernel⟩
abbrev y_N_isFull : MethodName := ⟨"QuorumStore$Network", "isFull", "()Z"⟩
abbrev c_N_isFull : ByteArray := prog_4_method_2_code
theorem m_N_isFull : xm_ok y_N_isFull c_N_isFull 1 (Option.some FieldType.boolean) 0 := ⟨k_670, k_2, by decide +kernel⟩
abbrev y_N_removeAt : MethodName := ⟨"QuorumStore$Network", "removeAt", "(I)V"⟩
abbrev c_N_removeAt : ByteArray := prog_4_method_3_code
theorem m_N_removeAt : xm_ok y_N_removeAt c_N_removeAt 3 (Option.none : Option FieldType) 1 := ⟨k_572, k_2, by decide +kernel⟩
abbrev y_N_send : MethodName := ⟨"QuorumStore$Network", "send", "(LQuorumStore$Message;)V"⟩
abbrev c_N_send : ByteArray := prog_4_method_4_code
theorem m_N_send : xm_ok y_N_send c_N_send 2 (Option.none : Option FieldType) 1 := ⟨k_419, k_2, by decide +kernel⟩
abbrev y_N_repeat : MethodName := ⟨"QuorumStore$Network", "repeat", "(LQuorumStore$Message;)V"⟩
abbrev c_N_repeat : ByteArray := prog_4_method_5_code
theorem m_N_repeat : xm_ok y_N_repeat c_N_repeat 2 (Option.none : Option FieldType) 1 := ⟨k_690, k_2, by decide +kernel⟩
abbrev y_N_sendPlain : MethodName := ⟨"QuorumStore$Network", "sendPlain", "(IIIIILQuorumStore$Value;)V"⟩
abbrev c_N_sendPlain : ByteArray := prog_4_method_6_code
theorem m_N_sendPlain : xm_ok y_N_sendPlain c_N_sendPlain 7 (Option.none : Option FieldType) 6 := ⟨k_374, k_2, by decide +kernel⟩
abbrev y_D_init : MethodName := ⟨"QuorumStore$Node", "<init>", "(IILQuorumStore$Network;)V"⟩
abbrev c_D_init : ByteArray := prog_5_method_1_code
theorem m_D_init : xm_ok y_D_init c_D_init 4 (Option.none : Option FieldType) 3 := ⟨k_65, k_3, by decide +kernel⟩
abbrev y_D_start : MethodName := ⟨"QuorumStore$Node", "start", "()V"⟩
abbrev c_D_start : ByteArray := prog_5_method_2_code
theorem m_D_start : xm_ok y_D_start c_D_start 1 (Option.none : Option FieldType) 0 := ⟨k_731, k_3, by decide +kernel⟩
abbrev y_D_stop : MethodName := ⟨"QuorumStore$Node", "stop", "()V"⟩
abbrev c_D_stop : ByteArray := prog_5_method_3_code
theorem m_D_stop : xm_ok y_D_stop c_D_stop 1 (Option.none : Option FieldType) 0 := ⟨k_719, k_3, by decide +kernel⟩
abbrev y_D_rest : MethodName := ⟨"QuorumStore$Node", "rest", "()V"⟩
abbrev c_D_rest : ByteArray := prog_5_method_4_code
theorem m_D_rest : xm_ok y_D_rest c_D_rest 1 (Option.none : Option FieldType) 0 := ⟨k_436, k_3, by decide +kernel⟩
abbrev y_D_stepDown : MethodName := ⟨"QuorumStore$Node", "stepDown", "()V"⟩
abbrev c_D_stepDown : ByteArray := prog_5_method_5_code
theorem m_D_stepDown : xm_ok y_D_stepDown c_D_stepDown 1 (Option.none : Option FieldType) 0 := ⟨k_596, k_3, by decide +kernel⟩
abbrev y_D_peers : MethodName := ⟨"QuorumStore$Node", "peers", "()I"⟩
abbrev c_D_peers : ByteArray := prog_5_method_6_code
theorem m_D_peers : xm_ok y_D_peers c_D_peers 1 (Option.some FieldType.int) 0 := ⟨k_359, k_3, by decide +kernel⟩
abbrev y_D_sendEach : MethodName := ⟨"QuorumStore$Node", "sendEach", "(IIIILQuorumStore$Value;)V"⟩
abbrev c_D_sendEach : ByteArray := prog_5_method_7_code
theorem m_D_sendEach : xm_ok y_D_sendEach c_D_sendEach 7 (Option.none : Option FieldType) 5 := ⟨k_432, k_3, by decide +kernel⟩
abbrev y_D_want : MethodName := ⟨"QuorumStore$Node", "want", "(I)V"⟩
abbrev c_D_want : ByteArray := prog_5_method_8_code
theorem m_D_want : xm_ok y_D_want c_D_want 2 (Option.none : Option FieldType) 1 := ⟨k_613, k_3, by decide +kernel⟩
abbrev y_D_passTime : MethodName := ⟨"QuorumStore$Node", "passTime", "()V"⟩
abbrev c_D_passTime : ByteArray := prog_5_method_9_code
theorem m_D_passTime : xm_ok y_D_passTime c_D_passTime 1 (Option.none : Option FieldType) 0 := ⟨k_351, k_3, by decide +kernel⟩
abbrev y_D_beat : MethodName := ⟨"QuorumStore$Node", "beat", "()V"⟩
abbrev c_D_beat : ByteArray := prog_5_method_10_code
theorem m_D_beat : xm_ok y_D_beat c_D_beat 5 (Option.none : Option FieldType) 0 := ⟨k_355, k_3, by decide +kernel⟩
abbrev y_D_beginToLead : MethodName := ⟨"QuorumStore$Node", "beginToLead", "()V"⟩
abbrev c_D_beginToLead : ByteArray := prog_5_method_11_code
theorem m_D_beginToLead : xm_ok y_D_beginToLead c_D_beginToLead 2 (Option.none : Option FieldType) 0 := ⟨k_440, k_3, by decide +kernel⟩
abbrev y_D_work : MethodName := ⟨"QuorumStore$Node", "work", "()V"⟩
abbrev c_D_work : ByteArray := prog_5_method_12_code
theorem m_D_work : xm_ok y_D_work c_D_work 4 (Option.none : Option FieldType) 0 := ⟨k_469, k_3, by decide +kernel⟩
abbrev y_D_settle : MethodName := ⟨"QuorumStore$Node", "settle", "()V"⟩
abbrev c_D_settle : ByteArray := prog_5_method_13_code
theorem m_D_settle : xm_ok y_D_settle c_D_settle 2 (Option.none : Option FieldType) 0 := ⟨k_473, k_3, by decide +kernel⟩
abbrev y_D_openSlot : MethodName := ⟨"QuorumStore$Node", "openSlot", "()I"⟩
abbrev c_D_openSlot : ByteArray := prog_5_method_14_code
theorem m_D_openSlot : xm_ok y_D_openSlot c_D_openSlot 2 (Option.some FieldType.int) 0 := ⟨k_481, k_3, by decide +kernel⟩
abbrev y_D_propose : MethodName := ⟨"QuorumStore$Node", "propose", "(ILQuorumStore$Value;)V"⟩
abbrev c_D_propose : ByteArray := prog_5_method_15_code
theorem m_D_propose : xm_ok y_D_propose c_D_propose 5 (Option.none : Option FieldType) 2 := ⟨k_507, k_3, by decide +kernel⟩
abbrev y_D_chooseIfAcknowledged : MethodName := ⟨"QuorumStore$Node", "chooseIfAcknowledged", "(I)V"⟩
abbrev c_D_chooseIfAcknowledged : ByteArray := prog_5_method_16_code
theorem m_D_chooseIfAcknowledged : xm_ok y_D_chooseIfAcknowledged c_D_chooseIfAcknowledged 3 (Option.none : Option FieldType) 1 := ⟨k_512, k_3, by decide +kernel⟩
abbrev y_D_learn : MethodName := ⟨"QuorumStore$Node", "learn", "(ILQuorumStore$Value;)V"⟩
abbrev c_D_learn : ByteArray := prog_5_method_17_code
theorem m_D_learn : xm_ok y_D_learn c_D_learn 3 (Option.none : Option FieldType) 2 := ⟨k_516, k_3, by decide +kernel⟩
abbrev y_D_applyKnown : MethodName := ⟨"QuorumStore$Node", "applyKnown", "()V"⟩
abbrev c_D_applyKnown : ByteArray := prog_5_method_18_code
theorem m_D_applyKnown : xm_ok y_D_applyKnown c_D_applyKnown 3 (Option.none : Option FieldType) 0 := ⟨k_524, k_3, by decide +kernel⟩
abbrev y_D_refusal : MethodName := ⟨"QuorumStore$Node", "refusal", "(II)I"⟩
abbrev c_D_refusal : ByteArray := prog_5_method_19_code
theorem m_D_refusal : xm_ok y_D_refusal c_D_refusal 3 (Option.some FieldType.int) 2 := ⟨k_755, k_3, by decide +kernel⟩
abbrev y_D_take : MethodName := ⟨"QuorumStore$Node", "take", "(LQuorumStore$Value;)V"⟩
abbrev c_D_take : ByteArray := prog_5_method_20_code
theorem m_D_take : xm_ok y_D_take c_D_take 2 (Option.none : Option FieldType) 1 := ⟨k_772, k_3, by decide +kernel⟩
abbrev y_D_receive : MethodName := ⟨"QuorumStore$Node", "receive", "(LQuorumStore$Message;)V"⟩
abbrev c_D_receive : ByteArray := prog_5_method_21_code
theorem m_D_receive : xm_ok y_D_receive c_D_receive 3 (Option.none : Option FieldType) 1 := ⟨k_576, k_3, by decide +kernel⟩
abbrev y_D_rejects : MethodName := ⟨"QuorumStore$Node", "rejects", "(LQuorumStore$Message;)Z"⟩
abbrev c_D_rejects : ByteArray := prog_5_method_22_code
theorem m_D_rejects : xm_ok y_D_rejects c_D_rejects 2 (Option.some FieldType.boolean) 1 := ⟨k_584, k_3, by decide +kernel⟩
abbrev y_D_promise : MethodName := ⟨"QuorumStore$Node", "promise", "(I)V"⟩
abbrev c_D_promise : ByteArray := prog_5_method_23_code
theorem m_D_promise : xm_ok y_D_promise c_D_promise 2 (Option.none : Option FieldType) 1 := ⟨k_588, k_3, by decide +kernel⟩
abbrev y_D_stepDownBefore : MethodName := ⟨"QuorumStore$Node", "stepDownBefore", "(I)V"⟩
abbrev c_D_stepDownBefore : ByteArray := prog_5_method_24_code
theorem m_D_stepDownBefore : xm_ok y_D_stepDownBefore c_D_stepDownBefore 2 (Option.none : Option FieldType) 1 := ⟨k_592, k_3, by decide +kernel⟩
abbrev y_D_follow : MethodName := ⟨"QuorumStore$Node", "follow", "(I)V"⟩
abbrev c_D_follow : ByteArray := prog_5_method_25_code
theorem m_D_follow : xm_ok y_D_follow c_D_follow 2 (Option.none : Option FieldType) 1 := ⟨k_625, k_3, by decide +kernel⟩
abbrev y_D_onPrepare : MethodName := ⟨"QuorumStore$Node", "onPrepare", "(LQuorumStore$Message;)V"⟩
abbrev c_D_onPrepare : ByteArray := prog_5_method_26_code
theorem m_D_onPrepare : xm_ok y_D_onPrepare c_D_onPrepare 3 (Option.none : Option FieldType) 1 := ⟨k_580, k_3, by decide +kernel⟩
abbrev y_D_onPromise : MethodName := ⟨"QuorumStore$Node", "onPromise", "(LQuorumStore$Message;)Z"⟩
abbrev c_D_onPromise : ByteArray := prog_5_method_27_code
theorem m_D_onPromise : xm_ok y_D_onPromise c_D_onPromise 2 (Option.some FieldType.boolean) 1 := ⟨k_609, k_3, by decide +kernel⟩
abbrev y_D_onReject : MethodName := ⟨"QuorumStore$Node", "onReject", "(LQuorumStore$Message;)V"⟩
abbrev c_D_onReject : ByteArray := prog_5_method_28_code
theorem m_D_onReject : xm_ok y_D_onReject c_D_onReject 2 (Option.none : Option FieldType) 1 := ⟨k_617, k_3, by decide +kernel⟩
abbrev y_D_onAccept : MethodName := ⟨"QuorumStore$Node", "onAccept", "(LQuorumStore$Message;)V"⟩
abbrev c_D_onAccept : ByteArray := prog_5_method_29_code
theorem m_D_onAccept : xm_ok y_D_onAccept c_D_onAccept 2 (Option.none : Option FieldType) 1 := ⟨k_621, k_3, by decide +kernel⟩
abbrev y_D_onAccepted : MethodName := ⟨"QuorumStore$Node", "onAccepted", "(LQuorumStore$Message;)V"⟩
abbrev c_D_onAccepted : ByteArray := prog_5_method_30_code
theorem m_D_onAccepted : xm_ok y_D_onAccepted c_D_onAccepted 4 (Option.none : Option FieldType) 1 := ⟨k_629, k_3, by decide +kernel⟩
abbrev y_D_onHeart : MethodName := ⟨"QuorumStore$Node", "onHeart", "(LQuorumStore$Message;)V"⟩
abbrev c_D_onHeart : ByteArray := prog_5_method_31_code
theorem m_D_onHeart : xm_ok y_D_onHeart c_D_onHeart 2 (Option.none : Option FieldType) 1 := ⟨k_633, k_3, by decide +kernel⟩
abbrev y_D_onWant : MethodName := ⟨"QuorumStore$Node", "onWant", "(LQuorumStore$Message;)V"⟩
abbrev c_D_onWant : ByteArray := prog_5_method_32_code
theorem m_D_onWant : xm_ok y_D_onWant c_D_onWant 4 (Option.none : Option FieldType) 1 := ⟨k_637, k_3, by decide +kernel⟩
abbrev y_D_onSnapshot : MethodName := ⟨"QuorumStore$Node", "onSnapshot", "(LQuorumStore$Message;)V"⟩
abbrev c_D_onSnapshot : ByteArray := prog_5_method_33_code
theorem m_D_onSnapshot : xm_ok y_D_onSnapshot c_D_onSnapshot 2 (Option.none : Option FieldType) 1 := ⟨k_651, k_3, by decide +kernel⟩
abbrev y_R_init : MethodName := ⟨"QuorumStore$Row", "<init>", "(I)V"⟩
abbrev c_R_init : ByteArray := prog_6_method_1_code
theorem m_R_init : xm_ok y_R_init c_R_init 2 (Option.none : Option FieldType) 1 := ⟨k_71, k_4, by decide +kernel⟩
abbrev y_R_valueAt : MethodName := ⟨"QuorumStore$Row", "valueAt", "(I)LQuorumStore$Value;"⟩
abbrev c_R_valueAt : ByteArray := prog_6_method_2_code
theorem m_R_valueAt : xm_ok y_R_valueAt c_R_valueAt 3 (Option.some (FieldType.object "QuorumStore$Value")) 1 := ⟨k_423, k_4, by decide +kernel⟩
abbrev y_R_markAt : MethodName := ⟨"QuorumStore$Row", "markAt", "(I)I"⟩
abbrev c_R_markAt : ByteArray := prog_6_method_3_code
theorem m_R_markAt : xm_ok y_R_markAt c_R_markAt 3 (Option.some FieldType.int) 1 := ⟨k_428, k_4, by decide +kernel⟩
abbrev y_R_put : MethodName := ⟨"QuorumStore$Row", "put", "(IILQuorumStore$Value;)V"⟩
abbrev c_R_put : ByteArray := prog_6_method_4_code
theorem m_R_put : xm_ok y_R_put c_R_put 5 (Option.none : Option FieldType) 3 := ⟨k_465, k_4, by decide +kernel⟩
abbrev y_R_remove : MethodName := ⟨"QuorumStore$Row", "remove", "(I)V"⟩
abbrev c_R_remove : ByteArray := prog_6_method_5_code
theorem m_R_remove : xm_ok y_R_remove c_R_remove 3 (Option.none : Option FieldType) 1 := ⟨k_520, k_4, by decide +kernel⟩
abbrev y_R_forgetUpTo : MethodName := ⟨"QuorumStore$Row", "forgetUpTo", "(I)V"⟩
abbrev c_R_forgetUpTo : ByteArray := prog_6_method_6_code
theorem m_R_forgetUpTo : xm_ok y_R_forgetUpTo c_R_forgetUpTo 3 (Option.none : Option FieldType) 1 := ⟨k_477, k_4, by decide +kernel⟩
abbrev y_R_forgetAll : MethodName := ⟨"QuorumStore$Row", "forgetAll", "()V"⟩
abbrev c_R_forgetAll : ByteArray := prog_6_method_7_code
theorem m_R_forgetAll : xm_ok y_R_forgetAll c_R_forgetAll 2 (Option.none : Option FieldType) 0 := ⟨k_451, k_4, by decide +kernel⟩
abbrev y_R_clearPlace : MethodName := ⟨"QuorumStore$Row", "clearPlace", "(I)V"⟩
abbrev c_R_clearPlace : ByteArray := prog_6_method_8_code
theorem m_R_clearPlace : xm_ok y_R_clearPlace c_R_clearPlace 2 (Option.none : Option FieldType) 1 := ⟨k_455, k_4, by decide +kernel⟩
abbrev y_R_size : MethodName := ⟨"QuorumStore$Row", "size", "()I"⟩
abbrev c_R_size : ByteArray := prog_6_method_9_code
theorem m_R_size : xm_ok y_R_size c_R_size 3 (Option.some FieldType.int) 0 := ⟨k_701, k_4, by decide +kernel⟩
abbrev y_R_lastSlot : MethodName := ⟨"QuorumStore$Row", "lastSlot", "()I"⟩
abbrev c_R_lastSlot : ByteArray := prog_6_method_10_code
theorem m_R_lastSlot : xm_ok y_R_lastSlot c_R_lastSlot 3 (Option.some FieldType.int) 0 := ⟨k_498, k_4, by decide +kernel⟩
abbrev y_R_twin : MethodName := ⟨"QuorumStore$Row", "twin", "()LQuorumStore$Row;"⟩
abbrev c_R_twin : ByteArray := prog_6_method_11_code
theorem m_R_twin : xm_ok y_R_twin c_R_twin 3 (Option.some (FieldType.object "QuorumStore$Row")) 0 := ⟨k_602, k_4, by decide +kernel⟩
abbrev y_S_init : MethodName := ⟨"QuorumStore$State", "<init>", "(I)V"⟩
abbrev c_S_init : ByteArray := prog_7_method_1_code
theorem m_S_init : xm_ok y_S_init c_S_init 3 (Option.none : Option FieldType) 1 := ⟨k_169, k_7, by decide +kernel⟩
abbrev y_S_takeOver : MethodName := ⟨"QuorumStore$State", "takeOver", "(LQuorumStore$State;)V"⟩
abbrev c_S_takeOver : ByteArray := prog_7_method_2_code
theorem m_S_takeOver : xm_ok y_S_takeOver c_S_takeOver 2 (Option.none : Option FieldType) 1 := ⟨k_641, k_7, by decide +kernel⟩
abbrev y_S_configAt : MethodName := ⟨"QuorumStore$State", "configAt", "(I)I"⟩
abbrev c_S_configAt : ByteArray := prog_7_method_3_code
theorem m_S_configAt : xm_ok y_S_configAt c_S_configAt 3 (Option.some FieldType.int) 1 := ⟨k_367, k_7, by decide +kernel⟩
abbrev y_S_membersBehind : MethodName := ⟨"QuorumStore$State", "membersBehind", "(I)I"⟩
abbrev c_S_membersBehind : ByteArray := prog_7_method_4_code
theorem m_S_membersBehind : xm_ok y_S_membersBehind c_S_membersBehind 4 (Option.some FieldType.int) 1 := ⟨k_363, k_7, by decide +kernel⟩
abbrev y_S_apply : MethodName := ⟨"QuorumStore$State", "apply", "(LQuorumStore$Value;I)V"⟩
abbrev c_S_apply : ByteArray := prog_7_method_5_code
theorem m_S_apply : xm_ok y_S_apply c_S_apply 3 (Option.none : Option FieldType) 2 := ⟨k_528, k_7, by decide +kernel⟩
abbrev y_S_forgetConfigsBefore : MethodName := ⟨"QuorumStore$State", "forgetConfigsBefore", "(I)V"⟩
abbrev c_S_forgetConfigsBefore : ByteArray := prog_7_method_6_code
theorem m_S_forgetConfigsBefore : xm_ok y_S_forgetConfigsBefore c_S_forgetConfigsBefore 4 (Option.none : Option FieldType) 1 := ⟨k_532, k_7, by decide +kernel⟩
abbrev y_S_changeMembers : MethodName := ⟨"QuorumStore$State", "changeMembers", "(II)J"⟩
abbrev c_S_changeMembers : ByteArray := prog_7_method_7_code
theorem m_S_changeMembers : xm_ok y_S_changeMembers c_S_changeMembers 3 (Option.some FieldType.long) 2 := ⟨k_536, k_7, by decide +kernel⟩
abbrev y_S_changeNumber : MethodName := ⟨"QuorumStore$State", "changeNumber", "(LQuorumStore$Value;)J"⟩
abbrev c_S_changeNumber : ByteArray := prog_7_method_8_code
theorem m_S_changeNumber : xm_ok y_S_changeNumber c_S_changeNumber 5 (Option.some FieldType.long) 1 := ⟨k_540, k_7, by decide +kernel⟩
abbrev y_V_init : MethodName := ⟨"QuorumStore$Value", "<init>", "(IIIIII)V"⟩
abbrev c_V_init : ByteArray := prog_8_method_1_code
theorem m_V_init : xm_ok y_V_init c_V_init 7 (Option.none : Option FieldType) 6 := ⟨k_97, k_6, by decide +kernel⟩
abbrev y_PM_init : MethodName := ⟨"QuorumStoreModel$Message", "<init>", "()V"⟩
abbrev c_PM_init : ByteArray := prog_11_method_1_code
theorem m_PM_init : xm_ok y_PM_init c_PM_init 1 (Option.none : Option FieldType) 0 := ⟨k_824, k_9, by decide +kernel⟩
abbrev y_PM_set : MethodName := ⟨"QuorumStoreModel$Message", "set", "(LQuorumStoreModel$Message;)V"⟩
abbrev c_PM_set : ByteArray := prog_11_method_2_code
theorem m_PM_set : xm_ok y_PM_set c_PM_set 2 (Option.none : Option FieldType) 1 := ⟨k_1095, k_9, by decide +kernel⟩
abbrev y_PD_init : MethodName := ⟨"QuorumStoreModel$Node", "<init>", "(I)V"⟩
abbrev c_PD_init : ByteArray := prog_12_method_1_code
theorem m_PD_init : xm_ok y_PD_init c_PD_init 2 (Option.none : Option FieldType) 1 := ⟨k_922, k_12, by decide +kernel⟩
abbrev y_PR_init : MethodName := ⟨"QuorumStoreModel$Slots", "<init>", "()V"⟩
abbrev c_PR_init : ByteArray := prog_13_method_1_code
theorem m_PR_init : xm_ok y_PR_init c_PR_init 1 (Option.none : Option FieldType) 0 := ⟨k_830, k_10, by decide +kernel⟩
abbrev y_PR_find : MethodName := ⟨"QuorumStoreModel$Slots", "find", "(I)I"⟩
abbrev c_PR_find : ByteArray := prog_13_method_2_code
theorem m_PR_find : xm_ok y_PR_find c_PR_find 3 (Option.some FieldType.int) 1 := ⟨k_1063, k_10, by decide +kernel⟩
abbrev y_PR_put : MethodName := ⟨"QuorumStoreModel$Slots", "put", "(IILQuorumStoreModel$Value;)V"⟩
abbrev c_PR_put : ByteArray := prog_13_method_3_code
theorem m_PR_put : xm_ok y_PR_put c_PR_put 5 (Option.none : Option FieldType) 3 := ⟨k_1067, k_10, by decide +kernel⟩
abbrev y_PR_move : MethodName := ⟨"QuorumStoreModel$Slots", "move", "(II)V"⟩
abbrev c_PR_move : ByteArray := prog_13_method_4_code
theorem m_PR_move : xm_ok y_PR_move c_PR_move 3 (Option.none : Option FieldType) 2 := ⟨k_1076, k_10, by decide +kernel⟩
abbrev y_PR_grow : MethodName := ⟨"QuorumStoreModel$Slots", "grow", "()V"⟩
abbrev c_PR_grow : ByteArray := prog_13_method_5_code
theorem m_PR_grow : xm_ok y_PR_grow c_PR_grow 5 (Option.none : Option FieldType) 0 := ⟨k_1072, k_10, by decide +kernel⟩
abbrev y_PR_remove : MethodName := ⟨"QuorumStoreModel$Slots", "remove", "(I)V"⟩
abbrev c_PR_remove : ByteArray := prog_13_method_6_code
theorem m_PR_remove : xm_ok y_PR_remove c_PR_remove 3 (Option.none : Option FieldType) 1 := ⟨k_1129, k_10, by decide +kernel⟩
abbrev y_PR_forget : MethodName := ⟨"QuorumStoreModel$Slots", "forget", "(I)V"⟩
abbrev c_PR_forget : ByteArray := prog_13_method_7_code
theorem m_PR_forget : xm_ok y_PR_forget c_PR_forget 2 (Option.none : Option FieldType) 1 := ⟨k_1150, k_10, by decide +kernel⟩
abbrev y_PR_set : MethodName := ⟨"QuorumStoreModel$Slots", "set", "(LQuorumStoreModel$Slots;)V"⟩
abbrev c_PR_set : ByteArray := prog_13_method_8_code
theorem m_PR_set : xm_ok y_PR_set c_PR_set 3 (Option.none : Option FieldType) 1 := ⟨k_1099, k_10, by decide +kernel⟩
abbrev y_PS_init : MethodName := ⟨"QuorumStoreModel$State", "<init>", "()V"⟩
abbrev c_PS_init : ByteArray := prog_14_method_1_code
theorem m_PS_init : xm_ok y_PS_init c_PS_init 2 (Option.none : Option FieldType) 0 := ⟨k_856, k_11, by decide +kernel⟩
abbrev y_PS_set : MethodName := ⟨"QuorumStoreModel$State", "set", "(LQuorumStoreModel$State;)V"⟩
abbrev c_PS_set : ByteArray := prog_14_method_2_code
theorem m_PS_set : xm_ok y_PS_set c_PS_set 3 (Option.none : Option FieldType) 1 := ⟨k_1104, k_11, by decide +kernel⟩
abbrev y_PS_config_II : MethodName := ⟨"QuorumStoreModel$State", "config", "(II)V"⟩
abbrev c_PS_config_II : ByteArray := prog_14_method_3_code
theorem m_PS_config_II : xm_ok y_PS_config_II c_PS_config_II 6 (Option.none : Option FieldType) 2 := ⟨k_994, k_11, by decide +kernel⟩
abbrev y_PS_trim : MethodName := ⟨"QuorumStoreModel$State", "trim", "()V"⟩
abbrev c_PS_trim : ByteArray := prog_14_method_4_code
theorem m_PS_trim : xm_ok y_PS_trim c_PS_trim 2 (Option.none : Option FieldType) 0 := ⟨k_1141, k_11, by decide +kernel⟩
abbrev y_PS_config_I : MethodName := ⟨"QuorumStoreModel$State", "config", "(I)I"⟩
abbrev c_PS_config_I : ByteArray := prog_14_method_5_code
theorem m_PS_config_I : xm_ok y_PS_config_I c_PS_config_I 4 (Option.some FieldType.int) 1 := ⟨k_1045, k_11, by decide +kernel⟩
abbrev y_PV_init : MethodName := ⟨"QuorumStoreModel$Value", "<init>", "(IIIIII)V"⟩
abbrev c_PV_init : ByteArray := prog_15_method_1_code
theorem m_PV_init : xm_ok y_PV_init c_PV_init 7 (Option.none : Option FieldType) 6 := ⟨k_1236, k_23, by decide +kernel⟩
abbrev y_W_cell : MethodName := ⟨"QuorumStoreLaw", "cell", "([II)I"⟩
abbrev c_W_cell : ByteArray := method_2_code
theorem m_W_cell : xm_ok y_W_cell c_W_cell 2 (Option.some FieldType.int) 2 := ⟨k_271, k_0, by decide +kernel⟩
abbrev y_W_tick : MethodName := ⟨"QuorumStoreLaw", "tick", "(LQuorumStore;I[J)I"⟩
abbrev c_W_tick : ByteArray := method_3_code
abbrev y_W_deliver : MethodName := ⟨"QuorumStoreLaw", "deliver", "(LQuorumStore;I[J)I"⟩
abbrev c_W_deliver : ByteArray := method_4_code
abbrev y_W_drop : MethodName := ⟨"QuorumStoreLaw", "drop", "(LQuorumStore;I[J)I"⟩
abbrev c_W_drop : ByteArray := method_5_code
abbrev y_W_copy : MethodName := ⟨"QuorumStoreLaw", "copy", "(LQuorumStore;I[J)I"⟩
abbrev c_W_copy : ByteArray := method_6_code
abbrev y_W_message : MethodName := ⟨"QuorumStoreLaw", "message", "(LQuorumStore;II[J)I"⟩
abbrev c_W_message : ByteArray := method_7_code
abbrev y_W_fall : MethodName := ⟨"QuorumStoreLaw", "fall", "(LQuorumStore;I)I"⟩
abbrev c_W_fall : ByteArray := method_8_code
abbrev y_W_rise : MethodName := ⟨"QuorumStoreLaw", "rise", "(LQuorumStore;I)I"⟩
abbrev c_W_rise : ByteArray := method_9_code
abbrev y_W_key : MethodName := ⟨"QuorumStoreLaw", "key", "(LQuorumStore;I[J)I"⟩
abbrev c_W_key : ByteArray := method_10_code
abbrev y_W_ask : MethodName := ⟨"QuorumStoreLaw", "ask", "(LQuorumStore;IIIIII[J)I"⟩
abbrev c_W_ask : ByteArray := method_11_code
abbrev y_W_answer : MethodName := ⟨"QuorumStoreLaw", "answer", "(LQuorumStore;III[J)I"⟩
abbrev c_W_answer : ByteArray := method_12_code
abbrev y_W_number : MethodName := ⟨"QuorumStoreLaw", "number", "(LQuorumStore;II[J)I"⟩
abbrev c_W_number : ByteArray := method_13_code
abbrev y_W_known : MethodName := ⟨"QuorumStoreLaw", "known", "(LQuorumStore;III[J)I"⟩
abbrev c_W_known : ByteArray := method_14_code
abbrev y_W_about : MethodName := ⟨"QuorumStoreLaw", "about", "(LQuorumStore;II[J)I"⟩
abbrev c_W_about : ByteArray := method_15_code
abbrev y_JO_init : MethodName := ⟨"java/lang/Object", "<init>", "()V"⟩
abbrev c_JO_init : ByteArray := object_method_1_code
abbrev y_JI_bitCount : MethodName := ⟨"java/lang/Integer", "bitCount", "(I)I"⟩
abbrev c_JI_bitCount : ByteArray := prog_19_method_49_code
theorem m_JI_bitCount : xm_ok y_JI_bitCount c_JI_bitCount 1 (Option.some FieldType.int) 1 := ⟨k_487, k_19, by decide +kernel⟩
abbrev y_JM_max : MethodName := ⟨"java/lang/Math", "max", "(II)I"⟩
abbrev c_JM_max : ByteArray := prog_20_method_65_code
theorem m_JM_max : xm_ok y_JM_max c_JM_max 2 (Option.some FieldType.int) 2 := ⟨k_443, k_18, by decide +kernel⟩
abbrev y_JM_min_II : MethodName := ⟨"java/lang/Math", "min", "(II)I"⟩
abbrev c_JM_min_II : ByteArray := prog_20_method_69_code
theorem m_JM_min_II : xm_ok y_JM_min_II c_JM_min_II 2 (Option.some FieldType.int) 2 := ⟨k_647, k_18, by decide +kernel⟩
abbrev y_JM_min_JJ : MethodName := ⟨"java/lang/Math", "min", "(JJ)J"⟩
abbrev c_JM_min_JJ : ByteArray := prog_20_method_70_code
theorem m_JM_min_JJ : xm_ok y_JM_min_JJ c_JM_min_JJ 4 (Option.some FieldType.long) 2 := ⟨k_1195, k_18, by decide +kernel⟩
