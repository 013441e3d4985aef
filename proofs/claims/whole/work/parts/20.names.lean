/-! Names, by program out of the claim's printed ones: classes, methods, entries with the places of their words in lw_tbl -/
def RX0 : String := "RaysOfShapes$Block"
def TX0 : u_T := fun k => match k with
  | 0 => ("RaysOfShapes$Block", "now", "LRaysOfShapes$Places;", true)
  | 1 => ("RaysOfShapes$Block", "carvings", "[LRaysOfShapes$Places;", true)
  | 2 => ("RaysOfShapes$Block", "next", "I", false)
  | 3 => ("RaysOfShapes$Block", "left", "I", false)
  | 4 => ("RaysOfShapes$Block", "inAll", "I", false)
  | _ => ("RaysOfShapes$Block", "drawn", "I", false)
def tyX0 : Nat → FieldType := fun k => match k with
  | 0 => .object "RaysOfShapes$Places"
  | 1 => .array (.object "RaysOfShapes$Places")
  | 2 => .int
  | 3 => .int
  | 4 => .int
  | _ => .int
theorem nmX0 : ∀ a, a < 6 → ∀ b, b < 6 → a ≠ b → (TX0 a).2.1 ≠ (TX0 b).2.1 := by decide +kernel
theorem tyX0_ok : ∀ k, k < 6 → parseFieldDescriptor (TX0 k).2.2.1 = some (tyX0 k) := by decide +kernel
def RX1 : String := "RaysOfShapes$Fraction"
def TX1 : u_T := fun k => match k with
  | 0 => ("RaysOfShapes$Fraction", "num", "J", false)
  | _ => ("RaysOfShapes$Fraction", "den", "J", false)
def tyX1 : Nat → FieldType := fun k => match k with
  | 0 => .long
  | _ => .long
theorem nmX1 : ∀ a, a < 2 → ∀ b, b < 2 → a ≠ b → (TX1 a).2.1 ≠ (TX1 b).2.1 := by decide +kernel
theorem tyX1_ok : ∀ k, k < 2 → parseFieldDescriptor (TX1 k).2.2.1 = some (tyX1 k) := by decide +kernel
def RX2 : String := "RaysOfShapes$Kinds"
def TX2 : u_T := fun k => match k with
  | _ => ("", "", "", false)
def tyX2 : Nat → FieldType := fun k => match k with
  | _ => .int
theorem nmX2 : ∀ a, a < 0 → ∀ b, b < 0 → a ≠ b → (TX2 a).2.1 ≠ (TX2 b).2.1 := by decide +kernel
theorem tyX2_ok : ∀ k, k < 0 → parseFieldDescriptor (TX2 k).2.2.1 = some (tyX2 k) := by decide +kernel
def RX3 : String := "RaysOfShapes$Looker"
def TX3 : u_T := fun k => match k with
  | 0 => ("RaysOfShapes$Looker", "found", "[LRaysOfShapes$Places;", true)
  | 1 => ("RaysOfShapes$Looker", "looked", "[I", true)
  | 2 => ("RaysOfShapes$Looker", "none", "LRaysOfShapes$Places;", true)
  | 3 => ("RaysOfShapes$Looker", "measure", "LRaysOfShapes$Measure;", true)
  | _ => ("RaysOfShapes$Looker", "span", "LRaysOfShapes$Span;", true)
def tyX3 : Nat → FieldType := fun k => match k with
  | 0 => .array (.object "RaysOfShapes$Places")
  | 1 => .array .int
  | 2 => .object "RaysOfShapes$Places"
  | 3 => .object "RaysOfShapes$Measure"
  | _ => .object "RaysOfShapes$Span"
theorem nmX3 : ∀ a, a < 5 → ∀ b, b < 5 → a ≠ b → (TX3 a).2.1 ≠ (TX3 b).2.1 := by decide +kernel
theorem tyX3_ok : ∀ k, k < 5 → parseFieldDescriptor (TX3 k).2.2.1 = some (tyX3 k) := by decide +kernel
def RX4 : String := "RaysOfShapes$Measure"
def TX4 : u_T := fun k => match k with
  | 0 => ("RaysOfShapes$Measure", "points", "[I", true)
  | _ => ("RaysOfShapes$Measure", "worths", "[LRaysOfShapes$Fraction;", true)
def tyX4 : Nat → FieldType := fun k => match k with
  | 0 => .array .int
  | _ => .array (.object "RaysOfShapes$Fraction")
theorem nmX4 : ∀ a, a < 2 → ∀ b, b < 2 → a ≠ b → (TX4 a).2.1 ≠ (TX4 b).2.1 := by decide +kernel
theorem tyX4_ok : ∀ k, k < 2 → parseFieldDescriptor (TX4 k).2.2.1 = some (tyX4 k) := by decide +kernel
def RX5 : String := "RaysOfShapes$Places"
def TX5 : u_T := fun k => match k with
  | _ => ("RaysOfShapes$Places", "words", "[J", true)
def tyX5 : Nat → FieldType := fun k => match k with
  | _ => .array .long
theorem nmX5 : ∀ a, a < 1 → ∀ b, b < 1 → a ≠ b → (TX5 a).2.1 ≠ (TX5 b).2.1 := by decide +kernel
theorem tyX5_ok : ∀ k, k < 1 → parseFieldDescriptor (TX5 k).2.2.1 = some (tyX5 k) := by decide +kernel
def RX6 : String := "RaysOfShapes$Reader"
def TX6 : u_T := fun k => match k with
  | 0 => ("RaysOfShapes$Reader", "tape", "[I", true)
  | 1 => ("RaysOfShapes$Reader", "size", "I", false)
  | 2 => ("RaysOfShapes$Reader", "at", "I", false)
  | 3 => ("RaysOfShapes$Reader", "fault", "I", false)
  | 4 => ("RaysOfShapes$Reader", "made", "I", false)
  | 5 => ("RaysOfShapes$Reader", "open", "I", false)
  | 6 => ("RaysOfShapes$Reader", "openKinds", "[I", true)
  | 7 => ("RaysOfShapes$Reader", "openWords", "[I", true)
  | 8 => ("RaysOfShapes$Reader", "openFirsts", "[I", true)
  | 9 => ("RaysOfShapes$Reader", "openNumbers", "[I", true)
  | _ => ("RaysOfShapes$Reader", "numbers", "[I", true)
def tyX6 : Nat → FieldType := fun k => match k with
  | 0 => .array .int
  | 1 => .int
  | 2 => .int
  | 3 => .int
  | 4 => .int
  | 5 => .int
  | 6 => .array .int
  | 7 => .array .int
  | 8 => .array .int
  | 9 => .array .int
  | _ => .array .int
theorem nmX6 : ∀ a, a < 11 → ∀ b, b < 11 → a ≠ b → (TX6 a).2.1 ≠ (TX6 b).2.1 := by decide +kernel
theorem tyX6_ok : ∀ k, k < 11 → parseFieldDescriptor (TX6 k).2.2.1 = some (tyX6 k) := by decide +kernel
def RX7 : String := "RaysOfShapes$Shelves"
def TX7 : u_T := fun k => match k with
  | 0 => ("RaysOfShapes$Shelves", "held", "[I", true)
  | 1 => ("RaysOfShapes$Shelves", "sizes", "[I", true)
  | _ => ("RaysOfShapes$Shelves", "elements", "[J", true)
def tyX7 : Nat → FieldType := fun k => match k with
  | 0 => .array .int
  | 1 => .array .int
  | _ => .array .long
theorem nmX7 : ∀ a, a < 3 → ∀ b, b < 3 → a ≠ b → (TX7 a).2.1 ≠ (TX7 b).2.1 := by decide +kernel
theorem tyX7_ok : ∀ k, k < 3 → parseFieldDescriptor (TX7 k).2.2.1 = some (tyX7 k) := by decide +kernel
def RX8 : String := "RaysOfShapes$Span"
def TX8 : u_T := fun k => match k with
  | 0 => ("RaysOfShapes$Span", "regions", "[I", true)
  | 1 => ("RaysOfShapes$Span", "lows", "[LRaysOfShapes$Fraction;", true)
  | _ => ("RaysOfShapes$Span", "highs", "[LRaysOfShapes$Fraction;", true)
def tyX8 : Nat → FieldType := fun k => match k with
  | 0 => .array .int
  | 1 => .array (.object "RaysOfShapes$Fraction")
  | _ => .array (.object "RaysOfShapes$Fraction")
theorem nmX8 : ∀ a, a < 3 → ∀ b, b < 3 → a ≠ b → (TX8 a).2.1 ≠ (TX8 b).2.1 := by decide +kernel
theorem tyX8_ok : ∀ k, k < 3 → parseFieldDescriptor (TX8 k).2.2.1 = some (tyX8 k) := by decide +kernel
def RX9 : String := "RaysOfShapes$Table"
def TX9 : u_T := fun k => match k with
  | 0 => ("RaysOfShapes$Table", "kind", "[I", true)
  | 1 => ("RaysOfShapes$Table", "first", "[I", true)
  | 2 => ("RaysOfShapes$Table", "second", "[I", true)
  | 3 => ("RaysOfShapes$Table", "deep", "[I", true)
  | 4 => ("RaysOfShapes$Table", "blends", "[I", true)
  | 5 => ("RaysOfShapes$Table", "solids", "[I", true)
  | 6 => ("RaysOfShapes$Table", "numbers", "[I", true)
  | _ => ("RaysOfShapes$Table", "size", "I", false)
def tyX9 : Nat → FieldType := fun k => match k with
  | 0 => .array .int
  | 1 => .array .int
  | 2 => .array .int
  | 3 => .array .int
  | 4 => .array .int
  | 5 => .array .int
  | 6 => .array .int
  | _ => .int
theorem nmX9 : ∀ a, a < 8 → ∀ b, b < 8 → a ≠ b → (TX9 a).2.1 ≠ (TX9 b).2.1 := by decide +kernel
theorem tyX9_ok : ∀ k, k < 8 → parseFieldDescriptor (TX9 k).2.2.1 = some (tyX9 k) := by decide +kernel
def RX10 : String := "RaysOfShapes$Walker"
def TX10 : u_T := fun k => match k with
  | 0 => ("RaysOfShapes$Walker", "seen", "LRaysOfShapes$Places;", true)
  | 1 => ("RaysOfShapes$Walker", "due", "[I", true)
  | 2 => ("RaysOfShapes$Walker", "stepsTillIn", "I", false)
  | 3 => ("RaysOfShapes$Walker", "placesIn", "I", false)
  | 4 => ("RaysOfShapes$Walker", "timesOver", "I", false)
  | 5 => ("RaysOfShapes$Walker", "parts", "I", false)
  | 6 => ("RaysOfShapes$Walker", "greatest", "I", false)
  | _ => ("RaysOfShapes$Walker", "leastOfGreatest", "I", false)
def tyX10 : Nat → FieldType := fun k => match k with
  | 0 => .object "RaysOfShapes$Places"
  | 1 => .array .int
  | 2 => .int
  | 3 => .int
  | 4 => .int
  | 5 => .int
  | 6 => .int
  | _ => .int
theorem nmX10 : ∀ a, a < 8 → ∀ b, b < 8 → a ≠ b → (TX10 a).2.1 ≠ (TX10 b).2.1 := by decide +kernel
theorem tyX10_ok : ∀ k, k < 8 → parseFieldDescriptor (TX10 k).2.2.1 = some (tyX10 k) := by decide +kernel
def RX11 : String := "RaysOfShapes"
def TX11 : u_T := fun k => match k with
  | 0 => ("RaysOfShapes", "table", "LRaysOfShapes$Table;", true)
  | 1 => ("RaysOfShapes", "keptTable", "LRaysOfShapes$Table;", true)
  | 2 => ("RaysOfShapes", "carved", "LRaysOfShapes$Block;", true)
  | 3 => ("RaysOfShapes", "keptCarved", "LRaysOfShapes$Block;", true)
  | 4 => ("RaysOfShapes", "shelves", "LRaysOfShapes$Shelves;", true)
  | 5 => ("RaysOfShapes", "reader", "LRaysOfShapes$Reader;", true)
  | 6 => ("RaysOfShapes", "looker", "LRaysOfShapes$Looker;", true)
  | 7 => ("RaysOfShapes", "walker", "LRaysOfShapes$Walker;", true)
  | 8 => ("RaysOfShapes", "measure", "LRaysOfShapes$Measure;", true)
  | 9 => ("RaysOfShapes", "span", "LRaysOfShapes$Span;", true)
  | 10 => ("RaysOfShapes", "ballPlaces", "LRaysOfShapes$Places;", true)
  | 11 => ("RaysOfShapes", "numbers", "[I", true)
  | 12 => ("RaysOfShapes", "enoughAt", "[I", true)
  | 13 => ("RaysOfShapes", "refusals", "[I", true)
  | 14 => ("RaysOfShapes", "isKept", "Z", false)
  | _ => ("RaysOfShapes", "keptShapes", "I", false)
def tyX11 : Nat → FieldType := fun k => match k with
  | 0 => .object "RaysOfShapes$Table"
  | 1 => .object "RaysOfShapes$Table"
  | 2 => .object "RaysOfShapes$Block"
  | 3 => .object "RaysOfShapes$Block"
  | 4 => .object "RaysOfShapes$Shelves"
  | 5 => .object "RaysOfShapes$Reader"
  | 6 => .object "RaysOfShapes$Looker"
  | 7 => .object "RaysOfShapes$Walker"
  | 8 => .object "RaysOfShapes$Measure"
  | 9 => .object "RaysOfShapes$Span"
  | 10 => .object "RaysOfShapes$Places"
  | 11 => .array .int
  | 12 => .array .int
  | 13 => .array .int
  | 14 => .boolean
  | _ => .int
theorem nmX11 : ∀ a, a < 16 → ∀ b, b < 16 → a ≠ b → (TX11 a).2.1 ≠ (TX11 b).2.1 := by decide +kernel
theorem tyX11_ok : ∀ k, k < 16 → parseFieldDescriptor (TX11 k).2.2.1 = some (tyX11 k) := by decide +kernel
def RX12 : String := "RaysOfShapesModel"
def TX12 : u_T := fun k => match k with
  | 0 => ("RaysOfShapesModel", "shapes", "[I", true)
  | 1 => ("RaysOfShapesModel", "many", "I", false)
  | 2 => ("RaysOfShapesModel", "refusals", "[I", true)
  | 3 => ("RaysOfShapesModel", "low", "[J", true)
  | 4 => ("RaysOfShapesModel", "high", "[J", true)
  | 5 => ("RaysOfShapesModel", "sets", "[[Z", true)
  | 6 => ("RaysOfShapesModel", "seen", "[Z", true)
  | 7 => ("RaysOfShapesModel", "line", "[I", true)
  | 8 => ("RaysOfShapesModel", "told", "[I", true)
  | 9 => ("RaysOfShapesModel", "words", "[Ljava/lang/String;", true)
  | 10 => ("RaysOfShapesModel", "tape", "[I", true)
  | 11 => ("RaysOfShapesModel", "taped", "I", false)
  | 12 => ("RaysOfShapesModel", "place", "I", false)
  | 13 => ("RaysOfShapesModel", "begin", "I", false)
  | 14 => ("RaysOfShapesModel", "token", "I", false)
  | 15 => ("RaysOfShapesModel", "tokenIs", "I", false)
  | 16 => ("RaysOfShapesModel", "read", "[I", true)
  | 17 => ("RaysOfShapesModel", "readMany", "I", false)
  | 18 => ("RaysOfShapesModel", "begun", "[I", true)
  | 19 => ("RaysOfShapesModel", "sorts", "[I", true)
  | 20 => ("RaysOfShapesModel", "sizes", "[I", true)
  | 21 => ("RaysOfShapesModel", "elements", "[J", true)
  | 22 => ("RaysOfShapesModel", "block", "[Z", true)
  | 23 => ("RaysOfShapesModel", "carved", "[[Z", true)
  | 24 => ("RaysOfShapesModel", "carvings", "I", false)
  | 25 => ("RaysOfShapesModel", "carvedAll", "I", false)
  | 26 => ("RaysOfShapesModel", "seed", "I", false)
  | 27 => ("RaysOfShapesModel", "keptShapes", "[I", true)
  | 28 => ("RaysOfShapesModel", "keptBlock", "[Z", true)
  | 29 => ("RaysOfShapesModel", "keptCarved", "[[Z", true)
  | 30 => ("RaysOfShapesModel", "keptSingles", "[I", true)
  | _ => ("RaysOfShapesModel", "hasImage", "Z", false)
def tyX12 : Nat → FieldType := fun k => match k with
  | 0 => .array .int
  | 1 => .int
  | 2 => .array .int
  | 3 => .array .long
  | 4 => .array .long
  | 5 => .array (.array .boolean)
  | 6 => .array .boolean
  | 7 => .array .int
  | 8 => .array .int
  | 9 => .array (.object "java/lang/String")
  | 10 => .array .int
  | 11 => .int
  | 12 => .int
  | 13 => .int
  | 14 => .int
  | 15 => .int
  | 16 => .array .int
  | 17 => .int
  | 18 => .array .int
  | 19 => .array .int
  | 20 => .array .int
  | 21 => .array .long
  | 22 => .array .boolean
  | 23 => .array (.array .boolean)
  | 24 => .int
  | 25 => .int
  | 26 => .int
  | 27 => .array .int
  | 28 => .array .boolean
  | 29 => .array (.array .boolean)
  | 30 => .array .int
  | _ => .boolean
theorem nmX12 : ∀ a, a < 32 → ∀ b, b < 32 → a ≠ b → (TX12 a).2.1 ≠ (TX12 b).2.1 := by decide +kernel
theorem tyX12_ok : ∀ k, k < 32 → parseFieldDescriptor (TX12 k).2.2.1 = some (tyX12 k) := by decide +kernel
def zcl : List vw_C := [(RX0, TX0, 6), (RX1, TX1, 2), (RX2, TX2, 0), (RX3, TX3, 5), (RX4, TX4, 2), (RX5, TX5, 1), (RX6, TX6, 11), (RX7, TX7, 3), (RX8, TX8, 3), (RX9, TX9, 8), (RX10, TX10, 8), (RX11, TX11, 16), (RX12, TX12, 32)]
set_option maxRecDepth 100000 in
theorem zinX0 : ∀ w ∈ u_ws RX0 TX0 6, w ∈ lw_tbl := by
  have e : u_ws RX0 TX0 6 = [183, 185, 187, 189, 191, 193].filterMap (fun i : Nat => lw_tbl[i]?) := by decide +kernel
  intro w hw
  rw [e] at hw
  obtain ⟨i, -, hi⟩ := List.mem_filterMap.mp hw
  exact List.mem_of_getElem? hi
set_option maxRecDepth 100000 in
theorem zinX1 : ∀ w ∈ u_ws RX1 TX1 2, w ∈ lw_tbl := by
  have e : u_ws RX1 TX1 2 = [275, 277].filterMap (fun i : Nat => lw_tbl[i]?) := by decide +kernel
  intro w hw
  rw [e] at hw
  obtain ⟨i, -, hi⟩ := List.mem_filterMap.mp hw
  exact List.mem_of_getElem? hi
set_option maxRecDepth 100000 in
theorem zinX2 : ∀ w ∈ u_ws RX2 TX2 0, w ∈ lw_tbl := by
  have e : u_ws RX2 TX2 0 = [].filterMap (fun i : Nat => lw_tbl[i]?) := by decide +kernel
  intro w hw
  rw [e] at hw
  obtain ⟨i, -, hi⟩ := List.mem_filterMap.mp hw
  exact List.mem_of_getElem? hi
set_option maxRecDepth 100000 in
theorem zinX3 : ∀ w ∈ u_ws RX3 TX3 5, w ∈ lw_tbl := by
  have e : u_ws RX3 TX3 5 = [310, 312, 314, 316, 318].filterMap (fun i : Nat => lw_tbl[i]?) := by decide +kernel
  intro w hw
  rw [e] at hw
  obtain ⟨i, -, hi⟩ := List.mem_filterMap.mp hw
  exact List.mem_of_getElem? hi
set_option maxRecDepth 100000 in
theorem zinX4 : ∀ w ∈ u_ws RX4 TX4 2, w ∈ lw_tbl := by
  have e : u_ws RX4 TX4 2 = [282, 284].filterMap (fun i : Nat => lw_tbl[i]?) := by decide +kernel
  intro w hw
  rw [e] at hw
  obtain ⟨i, -, hi⟩ := List.mem_filterMap.mp hw
  exact List.mem_of_getElem? hi
set_option maxRecDepth 100000 in
theorem zinX5 : ∀ w ∈ u_ws RX5 TX5 1, w ∈ lw_tbl := by
  have e : u_ws RX5 TX5 1 = [172].filterMap (fun i : Nat => lw_tbl[i]?) := by decide +kernel
  intro w hw
  rw [e] at hw
  obtain ⟨i, -, hi⟩ := List.mem_filterMap.mp hw
  exact List.mem_of_getElem? hi
set_option maxRecDepth 100000 in
theorem zinX6 : ∀ w ∈ u_ws RX6 TX6 11, w ∈ lw_tbl := by
  have e : u_ws RX6 TX6 11 = [229, 231, 233, 235, 237, 239, 241, 243, 245, 247, 249].filterMap (fun i : Nat => lw_tbl[i]?) := by decide +kernel
  intro w hw
  rw [e] at hw
  obtain ⟨i, -, hi⟩ := List.mem_filterMap.mp hw
  exact List.mem_of_getElem? hi
set_option maxRecDepth 100000 in
theorem zinX7 : ∀ w ∈ u_ws RX7 TX7 3, w ∈ lw_tbl := by
  have e : u_ws RX7 TX7 3 = [205, 207, 209].filterMap (fun i : Nat => lw_tbl[i]?) := by decide +kernel
  intro w hw
  rw [e] at hw
  obtain ⟨i, -, hi⟩ := List.mem_filterMap.mp hw
  exact List.mem_of_getElem? hi
set_option maxRecDepth 100000 in
theorem zinX8 : ∀ w ∈ u_ws RX8 TX8 3, w ∈ lw_tbl := by
  have e : u_ws RX8 TX8 3 = [298, 300, 302].filterMap (fun i : Nat => lw_tbl[i]?) := by decide +kernel
  intro w hw
  rw [e] at hw
  obtain ⟨i, -, hi⟩ := List.mem_filterMap.mp hw
  exact List.mem_of_getElem? hi
set_option maxRecDepth 100000 in
theorem zinX9 : ∀ w ∈ u_ws RX9 TX9 8, w ∈ lw_tbl := by
  have e : u_ws RX9 TX9 8 = [141, 143, 145, 147, 149, 151, 153, 155].filterMap (fun i : Nat => lw_tbl[i]?) := by decide +kernel
  intro w hw
  rw [e] at hw
  obtain ⟨i, -, hi⟩ := List.mem_filterMap.mp hw
  exact List.mem_of_getElem? hi
set_option maxRecDepth 100000 in
theorem zinX10 : ∀ w ∈ u_ws RX10 TX10 8, w ∈ lw_tbl := by
  have e : u_ws RX10 TX10 8 = [337, 339, 341, 343, 345, 347, 349, 351].filterMap (fun i : Nat => lw_tbl[i]?) := by decide +kernel
  intro w hw
  rw [e] at hw
  obtain ⟨i, -, hi⟩ := List.mem_filterMap.mp hw
  exact List.mem_of_getElem? hi
set_option maxRecDepth 100000 in
theorem zinX11 : ∀ w ∈ u_ws RX11 TX11 16, w ∈ lw_tbl := by
  have e : u_ws RX11 TX11 16 = [376, 378, 380, 382, 384, 386, 388, 390, 392, 394, 396, 398, 400, 402, 404, 406].filterMap (fun i : Nat => lw_tbl[i]?) := by decide +kernel
  intro w hw
  rw [e] at hw
  obtain ⟨i, -, hi⟩ := List.mem_filterMap.mp hw
  exact List.mem_of_getElem? hi
set_option maxRecDepth 100000 in
theorem zinX12 : ∀ w ∈ u_ws RX12 TX12 32, w ∈ lw_tbl := by
  have e : u_ws RX12 TX12 32 = [1405, 1407, 1409, 1411, 1413, 1415, 1417, 1419, 1421, 1423, 1425, 1427, 1429, 1431, 1433, 1435, 1437, 1439, 1441, 1443, 1445, 1447, 1449, 1451, 1453, 1455, 1457, 1459, 1461, 1463, 1465, 1467].filterMap (fun i : Nat => lw_tbl[i]?) := by decide +kernel
  intro w hw
  rw [e] at hw
  obtain ⟨i, -, hi⟩ := List.mem_filterMap.mp hw
  exact List.mem_of_getElem? hi
def zcns : List String := ["", "RaysOfShapes$Block", "RaysOfShapes$Fraction", "RaysOfShapes$Kinds", "RaysOfShapes$Looker", "RaysOfShapes$Measure", "RaysOfShapes$Places", "RaysOfShapes$Reader", "RaysOfShapes$Shelves", "RaysOfShapes$Span", "RaysOfShapes$Table", "RaysOfShapes$Walker", "RaysOfShapes", "RaysOfShapesModel", "RaysOfShapesLaw", "java/lang/Long", "java/lang/Math", "java/lang/String", "java/lang/StringLatin1", "jdk/internal/util/Preconditions"]
def zcnOf (n : Nat) : String := (znth zcns n).getD ""
/-- a method: name, bytes, locals, answer, static, parameters, its class's number -/
abbrev zMd : Type := MethodName × ByteArray × Nat × Option FieldType × Bool × Nat × Nat
def zmOK (q : zMd) : Prop := Jvm.Cond.code q.1 q.2.1 q.2.2.1 q.2.2.2.1 ∈ lw_tbl ∧ Jvm.Cond.initialized q.1.cls ∈ lw_tbl ∧ (parseMethodDescriptor q.1.desc).map (fun d => d.parameters.length) = some q.2.2.2.2.2.1 ∧ q.1.cls = zcnOf q.2.2.2.2.2.2 ∧
  (q.1.cls ≠ "java/lang/invoke/MethodHandle" ∧ q.1.cls ≠ "java/lang/invoke/VarHandle") ∧ plainFor q.1 = true ∧ (q.2.2.2.2.1 = true → Jvm.Cond.static q.1 ∈ lw_tbl) ∧ (q.2.2.2.2.1 = false → Jvm.Cond.instanceMethod q.1 ∈ lw_tbl ∧ (q.1.name = "<init>" ∨ Jvm.Cond.selects q.1.cls q.1 q.1 ∈ lw_tbl))
theorem zsub_0 {w : Jvm.Cond} (h : w ∈ k2_sels lw_privs) : w ∈ lw_tbl := List.mem_append_left _ h
theorem zsub_1 {w : Jvm.Cond} (h : w ∈ tables_1_1) : w ∈ lw_tbl := List.mem_append_right _ (List.mem_append_left _ h)
theorem zsub_2 {w : Jvm.Cond} (h : w ∈ tables_1_2) : w ∈ lw_tbl := List.mem_append_right _ (List.mem_append_right _ (List.mem_append_left _ h))
theorem zsub_3 {w : Jvm.Cond} (h : w ∈ tables_1_3) : w ∈ lw_tbl := List.mem_append_right _ (List.mem_append_right _ (List.mem_append_right _ (List.mem_append_left _ h)))
theorem zsub_4 {w : Jvm.Cond} (h : w ∈ tables_1_4) : w ∈ lw_tbl := List.mem_append_right _ (List.mem_append_right _ (List.mem_append_right _ (List.mem_append_right _ (List.mem_append_left _ h))))
theorem zsub_5 {w : Jvm.Cond} (h : w ∈ tables_1_5) : w ∈ lw_tbl := List.mem_append_right _ (List.mem_append_right _ (List.mem_append_right _ (List.mem_append_right _ (List.mem_append_right _ (List.mem_append_left _ h)))))
theorem zsub_6 {w : Jvm.Cond} (h : w ∈ tables_1_6) : w ∈ lw_tbl := List.mem_append_right _ (List.mem_append_right _ (List.mem_append_right _ (List.mem_append_right _ (List.mem_append_right _ (List.mem_append_right _ (List.mem_append_left _ h))))))
theorem zsub_7 {w : Jvm.Cond} (h : w ∈ tables_1_7) : w ∈ lw_tbl := List.mem_append_right _ (List.mem_append_right _ (List.mem_append_right _ (List.mem_append_right _ (List.mem_append_right _ (List.mem_append_right _ (List.mem_append_right _ (List.mem_append_left _ h)))))))
theorem zsub_8 {w : Jvm.Cond} (h : w ∈ tables_1_8) : w ∈ lw_tbl := List.mem_append_right _ (List.mem_append_right _ (List.mem_append_right _ (List.mem_append_right _ (List.mem_append_right _ (List.mem_append_right _ (List.mem_append_right _ (List.mem_append_right _ (h))))))))
theorem zdp_0 : (parseMethodDescriptor "()V").map (fun d => d.parameters.length) = some 0 := by decide +kernel
theorem zdp_1 : (parseMethodDescriptor "()LRaysOfShapes$Places;").map (fun d => d.parameters.length) = some 0 := by decide +kernel
theorem zdp_2 : (parseMethodDescriptor "()I").map (fun d => d.parameters.length) = some 0 := by decide +kernel
theorem zdp_3 : (parseMethodDescriptor "(I)V").map (fun d => d.parameters.length) = some 1 := by decide +kernel
theorem zdp_4 : (parseMethodDescriptor "(I)I").map (fun d => d.parameters.length) = some 1 := by decide +kernel
theorem zdp_5 : (parseMethodDescriptor "(LRaysOfShapes$Places;I)I").map (fun d => d.parameters.length) = some 2 := by decide +kernel
theorem zdp_6 : (parseMethodDescriptor "(LRaysOfShapes$Block;)V").map (fun d => d.parameters.length) = some 1 := by decide +kernel
theorem zdp_7 : (parseMethodDescriptor "()J").map (fun d => d.parameters.length) = some 0 := by decide +kernel
theorem zdp_8 : (parseMethodDescriptor "()Z").map (fun d => d.parameters.length) = some 0 := by decide +kernel
theorem zdp_9 : (parseMethodDescriptor "(LRaysOfShapes$Fraction;)Z").map (fun d => d.parameters.length) = some 1 := by decide +kernel
theorem zdp_10 : (parseMethodDescriptor "(J)V").map (fun d => d.parameters.length) = some 1 := by decide +kernel
theorem zdp_11 : (parseMethodDescriptor "(JJ)V").map (fun d => d.parameters.length) = some 2 := by decide +kernel
theorem zdp_12 : (parseMethodDescriptor "(LRaysOfShapes$Fraction;)V").map (fun d => d.parameters.length) = some 1 := by decide +kernel
theorem zdp_13 : (parseMethodDescriptor "(II)V").map (fun d => d.parameters.length) = some 2 := by decide +kernel
theorem zdp_14 : (parseMethodDescriptor "(LRaysOfShapes$Fraction;II)V").map (fun d => d.parameters.length) = some 3 := by decide +kernel
theorem zdp_15 : (parseMethodDescriptor "(II)Z").map (fun d => d.parameters.length) = some 2 := by decide +kernel
theorem zdp_16 : (parseMethodDescriptor "(I)Z").map (fun d => d.parameters.length) = some 1 := by decide +kernel
theorem zdp_17 : (parseMethodDescriptor "(I[I)Z").map (fun d => d.parameters.length) = some 2 := by decide +kernel
theorem zdp_18 : (parseMethodDescriptor "(II[I)Z").map (fun d => d.parameters.length) = some 3 := by decide +kernel
theorem zdp_19 : (parseMethodDescriptor "(I)Ljava/lang/String;").map (fun d => d.parameters.length) = some 1 := by decide +kernel
theorem zdp_20 : (parseMethodDescriptor "(LRaysOfShapes$Table;I)LRaysOfShapes$Places;").map (fun d => d.parameters.length) = some 2 := by decide +kernel
theorem zdp_21 : (parseMethodDescriptor "(LRaysOfShapes$Table;I)I").map (fun d => d.parameters.length) = some 2 := by decide +kernel
theorem zdp_22 : (parseMethodDescriptor "(LRaysOfShapes$Table;III)V").map (fun d => d.parameters.length) = some 4 := by decide +kernel
theorem zdp_23 : (parseMethodDescriptor "(LRaysOfShapes$Table;IIII)LRaysOfShapes$Fraction;").map (fun d => d.parameters.length) = some 5 := by decide +kernel
theorem zdp_24 : (parseMethodDescriptor "(LRaysOfShapes$Table;III)I").map (fun d => d.parameters.length) = some 4 := by decide +kernel
theorem zdp_25 : (parseMethodDescriptor "(LRaysOfShapes$Table;II)V").map (fun d => d.parameters.length) = some 3 := by decide +kernel
theorem zdp_26 : (parseMethodDescriptor "(IIII)V").map (fun d => d.parameters.length) = some 4 := by decide +kernel
theorem zdp_27 : (parseMethodDescriptor "(LRaysOfShapes$Places;)V").map (fun d => d.parameters.length) = some 1 := by decide +kernel
theorem zdp_28 : (parseMethodDescriptor "(LRaysOfShapes$Places;LRaysOfShapes$Places;I)V").map (fun d => d.parameters.length) = some 3 := by decide +kernel
theorem zdp_29 : (parseMethodDescriptor "(LRaysOfShapes$Places;)I").map (fun d => d.parameters.length) = some 1 := by decide +kernel
theorem zdp_30 : (parseMethodDescriptor "(II)I").map (fun d => d.parameters.length) = some 2 := by decide +kernel
theorem zdp_31 : (parseMethodDescriptor "(LRaysOfShapes$Table;)I").map (fun d => d.parameters.length) = some 1 := by decide +kernel
theorem zdp_32 : (parseMethodDescriptor "(LRaysOfShapes$Table;)Z").map (fun d => d.parameters.length) = some 1 := by decide +kernel
theorem zdp_33 : (parseMethodDescriptor "(LRaysOfShapes$Table;I)Z").map (fun d => d.parameters.length) = some 2 := by decide +kernel
theorem zdp_34 : (parseMethodDescriptor "(ILjava/lang/String;)Z").map (fun d => d.parameters.length) = some 2 := by decide +kernel
theorem zdp_35 : (parseMethodDescriptor "(III)V").map (fun d => d.parameters.length) = some 3 := by decide +kernel
theorem zdp_36 : (parseMethodDescriptor "(II)J").map (fun d => d.parameters.length) = some 2 := by decide +kernel
theorem zdp_37 : (parseMethodDescriptor "(IIJ)V").map (fun d => d.parameters.length) = some 3 := by decide +kernel
theorem zdp_38 : (parseMethodDescriptor "(IJ)J").map (fun d => d.parameters.length) = some 2 := by decide +kernel
theorem zdp_39 : (parseMethodDescriptor "(IIIII)V").map (fun d => d.parameters.length) = some 5 := by decide +kernel
theorem zdp_40 : (parseMethodDescriptor "()LRaysOfShapes$Fraction;").map (fun d => d.parameters.length) = some 0 := by decide +kernel
theorem zdp_41 : (parseMethodDescriptor "(LRaysOfShapes$Table;I)V").map (fun d => d.parameters.length) = some 2 := by decide +kernel
theorem zdp_42 : (parseMethodDescriptor "(LRaysOfShapes$Fraction;LRaysOfShapes$Fraction;)V").map (fun d => d.parameters.length) = some 2 := by decide +kernel
theorem zdp_43 : (parseMethodDescriptor "(III)Z").map (fun d => d.parameters.length) = some 3 := by decide +kernel
theorem zdp_44 : (parseMethodDescriptor "(III)I").map (fun d => d.parameters.length) = some 3 := by decide +kernel
theorem zdp_45 : (parseMethodDescriptor "(IIII[I)V").map (fun d => d.parameters.length) = some 5 := by decide +kernel
theorem zdp_46 : (parseMethodDescriptor "(LRaysOfShapes$Table;)V").map (fun d => d.parameters.length) = some 1 := by decide +kernel
theorem zdp_47 : (parseMethodDescriptor "(LRaysOfShapes$Places;IIII)V").map (fun d => d.parameters.length) = some 5 := by decide +kernel
theorem zdp_48 : (parseMethodDescriptor "(LRaysOfShapes$Places;I)Z").map (fun d => d.parameters.length) = some 2 := by decide +kernel
theorem zdp_49 : (parseMethodDescriptor "(IIJ)I").map (fun d => d.parameters.length) = some 3 := by decide +kernel
theorem zdp_50 : (parseMethodDescriptor "(IIIII)I").map (fun d => d.parameters.length) = some 5 := by decide +kernel
theorem zdp_51 : (parseMethodDescriptor "(IIII)I").map (fun d => d.parameters.length) = some 4 := by decide +kernel
theorem zdp_52 : (parseMethodDescriptor "(IIIIII)I").map (fun d => d.parameters.length) = some 6 := by decide +kernel
theorem zdp_53 : (parseMethodDescriptor "(IIIII)J").map (fun d => d.parameters.length) = some 5 := by decide +kernel
theorem zdp_54 : (parseMethodDescriptor "(IIII)J").map (fun d => d.parameters.length) = some 4 := by decide +kernel
theorem zdp_55 : (parseMethodDescriptor "(LRaysOfShapes$Places;LRaysOfShapes$Places;II)Z").map (fun d => d.parameters.length) = some 4 := by decide +kernel
theorem zdp_56 : (parseMethodDescriptor "(IIIII)Z").map (fun d => d.parameters.length) = some 5 := by decide +kernel
theorem zdp_57 : (parseMethodDescriptor "(IIII)Z").map (fun d => d.parameters.length) = some 4 := by decide +kernel
theorem zdp_58 : (parseMethodDescriptor "(I)LRaysOfShapes$Places;").map (fun d => d.parameters.length) = some 1 := by decide +kernel
theorem zdp_59 : (parseMethodDescriptor "(II)LRaysOfShapes$Fraction;").map (fun d => d.parameters.length) = some 2 := by decide +kernel
theorem zdp_60 : (parseMethodDescriptor "(JJJ)Z").map (fun d => d.parameters.length) = some 3 := by decide +kernel
theorem zdp_61 : (parseMethodDescriptor "(I)J").map (fun d => d.parameters.length) = some 1 := by decide +kernel
theorem zdp_62 : (parseMethodDescriptor "(III)J").map (fun d => d.parameters.length) = some 3 := by decide +kernel
theorem zdp_63 : (parseMethodDescriptor "(IJJ)J").map (fun d => d.parameters.length) = some 3 := by decide +kernel
theorem zdp_64 : (parseMethodDescriptor "(JJ)J").map (fun d => d.parameters.length) = some 2 := by decide +kernel
theorem zdp_65 : (parseMethodDescriptor "(JZ)J").map (fun d => d.parameters.length) = some 2 := by decide +kernel
theorem zdp_66 : (parseMethodDescriptor "(IIIIIIII)V").map (fun d => d.parameters.length) = some 8 := by decide +kernel
theorem zdp_67 : (parseMethodDescriptor "(JJJ)J").map (fun d => d.parameters.length) = some 3 := by decide +kernel
theorem zdp_68 : (parseMethodDescriptor "(IIIIIIIIII)V").map (fun d => d.parameters.length) = some 10 := by decide +kernel
theorem zdp_69 : (parseMethodDescriptor "([III)I").map (fun d => d.parameters.length) = some 3 := by decide +kernel
theorem zdp_70 : (parseMethodDescriptor "(IIIII[II)I").map (fun d => d.parameters.length) = some 7 := by decide +kernel
theorem zdp_71 : (parseMethodDescriptor "([Z[Z)V").map (fun d => d.parameters.length) = some 2 := by decide +kernel
theorem zdp_72 : (parseMethodDescriptor "(J)I").map (fun d => d.parameters.length) = some 1 := by decide +kernel
theorem zdp_73 : (parseMethodDescriptor "(J)J").map (fun d => d.parameters.length) = some 1 := by decide +kernel
theorem zdp_74 : (parseMethodDescriptor "(I)C").map (fun d => d.parameters.length) = some 1 := by decide +kernel
theorem zdp_75 : (parseMethodDescriptor "()B").map (fun d => d.parameters.length) = some 0 := by decide +kernel
theorem zdp_76 : (parseMethodDescriptor "([BI)C").map (fun d => d.parameters.length) = some 2 := by decide +kernel
theorem zdp_77 : (parseMethodDescriptor "(IILjava/util/function/BiFunction;)I").map (fun d => d.parameters.length) = some 3 := by decide +kernel
theorem zmh_12 : ("RaysOfShapes" : String) ≠ "java/lang/invoke/MethodHandle" ∧ ("RaysOfShapes" : String) ≠ "java/lang/invoke/VarHandle" := ⟨by decide +kernel, by decide +kernel⟩
theorem zpn_12 : plainName "RaysOfShapes" = true := by decide +kernel
theorem zmh_1 : ("RaysOfShapes$Block" : String) ≠ "java/lang/invoke/MethodHandle" ∧ ("RaysOfShapes$Block" : String) ≠ "java/lang/invoke/VarHandle" := ⟨by decide +kernel, by decide +kernel⟩
theorem zpn_1 : plainName "RaysOfShapes$Block" = true := by decide +kernel
theorem zmh_2 : ("RaysOfShapes$Fraction" : String) ≠ "java/lang/invoke/MethodHandle" ∧ ("RaysOfShapes$Fraction" : String) ≠ "java/lang/invoke/VarHandle" := ⟨by decide +kernel, by decide +kernel⟩
theorem zpn_2 : plainName "RaysOfShapes$Fraction" = true := by decide +kernel
theorem zmh_3 : ("RaysOfShapes$Kinds" : String) ≠ "java/lang/invoke/MethodHandle" ∧ ("RaysOfShapes$Kinds" : String) ≠ "java/lang/invoke/VarHandle" := ⟨by decide +kernel, by decide +kernel⟩
theorem zpn_3 : plainName "RaysOfShapes$Kinds" = true := by decide +kernel
theorem zmh_4 : ("RaysOfShapes$Looker" : String) ≠ "java/lang/invoke/MethodHandle" ∧ ("RaysOfShapes$Looker" : String) ≠ "java/lang/invoke/VarHandle" := ⟨by decide +kernel, by decide +kernel⟩
theorem zpn_4 : plainName "RaysOfShapes$Looker" = true := by decide +kernel
theorem zmh_5 : ("RaysOfShapes$Measure" : String) ≠ "java/lang/invoke/MethodHandle" ∧ ("RaysOfShapes$Measure" : String) ≠ "java/lang/invoke/VarHandle" := ⟨by decide +kernel, by decide +kernel⟩
theorem zpn_5 : plainName "RaysOfShapes$Measure" = true := by decide +kernel
theorem zmh_6 : ("RaysOfShapes$Places" : String) ≠ "java/lang/invoke/MethodHandle" ∧ ("RaysOfShapes$Places" : String) ≠ "java/lang/invoke/VarHandle" := ⟨by decide +kernel, by decide +kernel⟩
theorem zpn_6 : plainName "RaysOfShapes$Places" = true := by decide +kernel
theorem zmh_7 : ("RaysOfShapes$Reader" : String) ≠ "java/lang/invoke/MethodHandle" ∧ ("RaysOfShapes$Reader" : String) ≠ "java/lang/invoke/VarHandle" := ⟨by decide +kernel, by decide +kernel⟩
theorem zpn_7 : plainName "RaysOfShapes$Reader" = true := by decide +kernel
theorem zmh_8 : ("RaysOfShapes$Shelves" : String) ≠ "java/lang/invoke/MethodHandle" ∧ ("RaysOfShapes$Shelves" : String) ≠ "java/lang/invoke/VarHandle" := ⟨by decide +kernel, by decide +kernel⟩
theorem zpn_8 : plainName "RaysOfShapes$Shelves" = true := by decide +kernel
theorem zmh_9 : ("RaysOfShapes$Span" : String) ≠ "java/lang/invoke/MethodHandle" ∧ ("RaysOfShapes$Span" : String) ≠ "java/lang/invoke/VarHandle" := ⟨by decide +kernel, by decide +kernel⟩
theorem zpn_9 : plainName "RaysOfShapes$Span" = true := by decide +kernel
theorem zmh_10 : ("RaysOfShapes$Table" : String) ≠ "java/lang/invoke/MethodHandle" ∧ ("RaysOfShapes$Table" : String) ≠ "java/lang/invoke/VarHandle" := ⟨by decide +kernel, by decide +kernel⟩
theorem zpn_10 : plainName "RaysOfShapes$Table" = true := by decide +kernel
theorem zmh_11 : ("RaysOfShapes$Walker" : String) ≠ "java/lang/invoke/MethodHandle" ∧ ("RaysOfShapes$Walker" : String) ≠ "java/lang/invoke/VarHandle" := ⟨by decide +kernel, by decide +kernel⟩
theorem zpn_11 : plainName "RaysOfShapes$Walker" = true := by decide +kernel
theorem zmh_13 : ("RaysOfShapesModel" : String) ≠ "java/lang/invoke/MethodHandle" ∧ ("RaysOfShapesModel" : String) ≠ "java/lang/invoke/VarHandle" := ⟨by decide +kernel, by decide +kernel⟩
theorem zpn_13 : plainName "RaysOfShapesModel" = true := by decide +kernel
theorem zmh_15 : ("java/lang/Long" : String) ≠ "java/lang/invoke/MethodHandle" ∧ ("java/lang/Long" : String) ≠ "java/lang/invoke/VarHandle" := ⟨by decide +kernel, by decide +kernel⟩
theorem zpn_15 : plainName "java/lang/Long" = true := by decide +kernel
theorem zmh_16 : ("java/lang/Math" : String) ≠ "java/lang/invoke/MethodHandle" ∧ ("java/lang/Math" : String) ≠ "java/lang/invoke/VarHandle" := ⟨by decide +kernel, by decide +kernel⟩
theorem zmh_17 : ("java/lang/String" : String) ≠ "java/lang/invoke/MethodHandle" ∧ ("java/lang/String" : String) ≠ "java/lang/invoke/VarHandle" := ⟨by decide +kernel, by decide +kernel⟩
theorem zpn_17 : plainName "java/lang/String" = true := by decide +kernel
theorem zmh_18 : ("java/lang/StringLatin1" : String) ≠ "java/lang/invoke/MethodHandle" ∧ ("java/lang/StringLatin1" : String) ≠ "java/lang/invoke/VarHandle" := ⟨by decide +kernel, by decide +kernel⟩
theorem zpn_18 : plainName "java/lang/StringLatin1" = true := by decide +kernel
theorem zmh_19 : ("jdk/internal/util/Preconditions" : String) ≠ "java/lang/invoke/MethodHandle" ∧ ("jdk/internal/util/Preconditions" : String) ≠ "java/lang/invoke/VarHandle" := ⟨by decide +kernel, by decide +kernel⟩
theorem zpn_19 : plainName "jdk/internal/util/Preconditions" = true := by decide +kernel
noncomputable abbrev zmd_0 : zMd := (⟨"RaysOfShapes$Block", "<init>", "()V"⟩, prog_2_method_1_code, 2, none, false, 0, 1)
set_option maxRecDepth 100000 in
theorem zmo_0 : zmOK zmd_0 := ⟨zsub_1 (List.mem_of_getElem? (i := 65) rfl), zsub_1 (List.mem_of_getElem? (i := 3) rfl), zdp_0, rfl, zmh_1, plainFor_of_name zpn_1, (fun h => nomatch h), (fun _ => ⟨zsub_1 (List.mem_of_getElem? (i := 64) rfl), Or.inl rfl⟩)⟩
noncomputable abbrev zmd_1 : zMd := (⟨"RaysOfShapes$Block", "places", "()LRaysOfShapes$Places;"⟩, prog_2_method_2_code, 1, some (.object "RaysOfShapes$Places"), false, 0, 1)
set_option maxRecDepth 100000 in
theorem zmo_1 : zmOK zmd_1 := ⟨zsub_5 (List.mem_of_getElem? (i := 222) rfl), zsub_1 (List.mem_of_getElem? (i := 3) rfl), zdp_1, rfl, zmh_1, plainFor_of_name zpn_1, (fun h => nomatch h), (fun _ => ⟨zsub_5 (List.mem_of_getElem? (i := 220) rfl), Or.inr (zsub_5 (List.mem_of_getElem? (i := 221) rfl))⟩)⟩
noncomputable abbrev zmd_2 : zMd := (⟨"RaysOfShapes$Block", "left", "()I"⟩, prog_2_method_3_code, 1, some .int, false, 0, 1)
set_option maxRecDepth 100000 in
theorem zmo_2 : zmOK zmd_2 := ⟨zsub_5 (List.mem_of_getElem? (i := 210) rfl), zsub_1 (List.mem_of_getElem? (i := 3) rfl), zdp_2, rfl, zmh_1, plainFor_of_name zpn_1, (fun h => nomatch h), (fun _ => ⟨zsub_5 (List.mem_of_getElem? (i := 208) rfl), Or.inr (zsub_5 (List.mem_of_getElem? (i := 209) rfl))⟩)⟩
noncomputable abbrev zmd_3 : zMd := (⟨"RaysOfShapes$Block", "inAll", "()I"⟩, prog_2_method_4_code, 1, some .int, false, 0, 1)
set_option maxRecDepth 100000 in
theorem zmo_3 : zmOK zmd_3 := ⟨zsub_6 (List.mem_of_getElem? (i := 47) rfl), zsub_1 (List.mem_of_getElem? (i := 3) rfl), zdp_2, rfl, zmh_1, plainFor_of_name zpn_1, (fun h => nomatch h), (fun _ => ⟨zsub_6 (List.mem_of_getElem? (i := 45) rfl), Or.inr (zsub_6 (List.mem_of_getElem? (i := 46) rfl))⟩)⟩
noncomputable abbrev zmd_4 : zMd := (⟨"RaysOfShapes$Block", "drawnFrom", "()I"⟩, prog_2_method_5_code, 1, some .int, false, 0, 1)
set_option maxRecDepth 100000 in
theorem zmo_4 : zmOK zmd_4 := ⟨zsub_6 (List.mem_of_getElem? (i := 14) rfl), zsub_1 (List.mem_of_getElem? (i := 3) rfl), zdp_2, rfl, zmh_1, plainFor_of_name zpn_1, (fun h => nomatch h), (fun _ => ⟨zsub_6 (List.mem_of_getElem? (i := 12) rfl), Or.inr (zsub_6 (List.mem_of_getElem? (i := 13) rfl))⟩)⟩
noncomputable abbrev zmd_5 : zMd := (⟨"RaysOfShapes$Block", "drawFrom", "(I)V"⟩, prog_2_method_6_code, 2, none, false, 1, 1)
set_option maxRecDepth 100000 in
theorem zmo_5 : zmOK zmd_5 := ⟨zsub_6 (List.mem_of_getElem? (i := 18) rfl), zsub_1 (List.mem_of_getElem? (i := 3) rfl), zdp_3, rfl, zmh_1, plainFor_of_name zpn_1, (fun h => nomatch h), (fun _ => ⟨zsub_6 (List.mem_of_getElem? (i := 16) rfl), Or.inr (zsub_6 (List.mem_of_getElem? (i := 17) rfl))⟩)⟩
noncomputable abbrev zmd_6 : zMd := (⟨"RaysOfShapes$Block", "draw", "(I)I"⟩, prog_2_method_7_code, 2, some .int, false, 1, 1)
set_option maxRecDepth 100000 in
theorem zmo_6 : zmOK zmd_6 := ⟨zsub_5 (List.mem_of_getElem? (i := 238) rfl), zsub_1 (List.mem_of_getElem? (i := 3) rfl), zdp_4, rfl, zmh_1, plainFor_of_name zpn_1, (fun h => nomatch h), (fun _ => ⟨zsub_5 (List.mem_of_getElem? (i := 236) rfl), Or.inr (zsub_5 (List.mem_of_getElem? (i := 237) rfl))⟩)⟩
noncomputable abbrev zmd_7 : zMd := (⟨"RaysOfShapes$Block", "carveBy", "(LRaysOfShapes$Places;I)I"⟩, prog_2_method_8_code, 4, some .int, false, 2, 1)
set_option maxRecDepth 100000 in
theorem zmo_7 : zmOK zmd_7 := ⟨zsub_5 (List.mem_of_getElem? (i := 190) rfl), zsub_1 (List.mem_of_getElem? (i := 3) rfl), zdp_5, rfl, zmh_1, plainFor_of_name zpn_1, (fun h => nomatch h), (fun _ => ⟨zsub_5 (List.mem_of_getElem? (i := 188) rfl), Or.inr (zsub_5 (List.mem_of_getElem? (i := 189) rfl))⟩)⟩
noncomputable abbrev zmd_8 : zMd := (⟨"RaysOfShapes$Block", "tellBack", "()V"⟩, prog_2_method_9_code, 1, none, false, 0, 1)
set_option maxRecDepth 100000 in
theorem zmo_8 : zmOK zmd_8 := ⟨zsub_5 (List.mem_of_getElem? (i := 214) rfl), zsub_1 (List.mem_of_getElem? (i := 3) rfl), zdp_0, rfl, zmh_1, plainFor_of_name zpn_1, (fun h => nomatch h), (fun _ => ⟨zsub_5 (List.mem_of_getElem? (i := 212) rfl), Or.inr (zsub_5 (List.mem_of_getElem? (i := 213) rfl))⟩)⟩
noncomputable abbrev zmd_9 : zMd := (⟨"RaysOfShapes$Block", "takeFrom", "(LRaysOfShapes$Block;)V"⟩, prog_2_method_10_code, 3, none, false, 1, 1)
set_option maxRecDepth 100000 in
theorem zmo_9 : zmOK zmd_9 := ⟨zsub_6 (List.mem_of_getElem? (i := 31) rfl), zsub_1 (List.mem_of_getElem? (i := 3) rfl), zdp_6, rfl, zmh_1, plainFor_of_name zpn_1, (fun h => nomatch h), (fun _ => ⟨zsub_6 (List.mem_of_getElem? (i := 29) rfl), Or.inr (zsub_6 (List.mem_of_getElem? (i := 30) rfl))⟩)⟩
noncomputable abbrev zmd_10 : zMd := (⟨"RaysOfShapes$Fraction", "<init>", "()V"⟩, prog_3_method_1_code, 1, none, false, 0, 2)
set_option maxRecDepth 100000 in
theorem zmo_10 : zmOK zmd_10 := ⟨zsub_1 (List.mem_of_getElem? (i := 173) rfl), zsub_1 (List.mem_of_getElem? (i := 9) rfl), zdp_0, rfl, zmh_2, plainFor_of_name zpn_2, (fun h => nomatch h), (fun _ => ⟨zsub_1 (List.mem_of_getElem? (i := 172) rfl), Or.inl rfl⟩)⟩
noncomputable abbrev zmd_11 : zMd := (⟨"RaysOfShapes$Fraction", "numerator", "()J"⟩, prog_3_method_2_code, 1, some .long, false, 0, 2)
set_option maxRecDepth 100000 in
theorem zmo_11 : zmOK zmd_11 := ⟨zsub_5 (List.mem_of_getElem? (i := 3) rfl), zsub_1 (List.mem_of_getElem? (i := 9) rfl), zdp_7, rfl, zmh_2, plainFor_of_name zpn_2, (fun h => nomatch h), (fun _ => ⟨zsub_5 (List.mem_of_getElem? (i := 1) rfl), Or.inr (zsub_5 (List.mem_of_getElem? (i := 2) rfl))⟩)⟩
noncomputable abbrev zmd_12 : zMd := (⟨"RaysOfShapes$Fraction", "denominator", "()J"⟩, prog_3_method_3_code, 1, some .long, false, 0, 2)
set_option maxRecDepth 100000 in
theorem zmo_12 : zmOK zmd_12 := ⟨zsub_5 (List.mem_of_getElem? (i := 7) rfl), zsub_1 (List.mem_of_getElem? (i := 9) rfl), zdp_7, rfl, zmh_2, plainFor_of_name zpn_2, (fun h => nomatch h), (fun _ => ⟨zsub_5 (List.mem_of_getElem? (i := 5) rfl), Or.inr (zsub_5 (List.mem_of_getElem? (i := 6) rfl))⟩)⟩
noncomputable abbrev zmd_13 : zMd := (⟨"RaysOfShapes$Fraction", "isAboveZero", "()Z"⟩, prog_3_method_4_code, 1, some .boolean, false, 0, 2)
set_option maxRecDepth 100000 in
theorem zmo_13 : zmOK zmd_13 := ⟨zsub_3 (List.mem_of_getElem? (i := 65) rfl), zsub_1 (List.mem_of_getElem? (i := 9) rfl), zdp_8, rfl, zmh_2, plainFor_of_name zpn_2, (fun h => nomatch h), (fun _ => ⟨zsub_3 (List.mem_of_getElem? (i := 63) rfl), Or.inr (zsub_3 (List.mem_of_getElem? (i := 64) rfl))⟩)⟩
noncomputable abbrev zmd_14 : zMd := (⟨"RaysOfShapes$Fraction", "isBelowZero", "()Z"⟩, prog_3_method_5_code, 1, some .boolean, false, 0, 2)
set_option maxRecDepth 100000 in
theorem zmo_14 : zmOK zmd_14 := ⟨zsub_3 (List.mem_of_getElem? (i := 149) rfl), zsub_1 (List.mem_of_getElem? (i := 9) rfl), zdp_8, rfl, zmh_2, plainFor_of_name zpn_2, (fun h => nomatch h), (fun _ => ⟨zsub_3 (List.mem_of_getElem? (i := 147) rfl), Or.inr (zsub_3 (List.mem_of_getElem? (i := 148) rfl))⟩)⟩
noncomputable abbrev zmd_15 : zMd := (⟨"RaysOfShapes$Fraction", "isAbove", "(LRaysOfShapes$Fraction;)Z"⟩, prog_3_method_6_code, 2, some .boolean, false, 1, 2)
set_option maxRecDepth 100000 in
theorem zmo_15 : zmOK zmd_15 := ⟨zsub_3 (List.mem_of_getElem? (i := 19) rfl), zsub_1 (List.mem_of_getElem? (i := 9) rfl), zdp_9, rfl, zmh_2, plainFor_of_name zpn_2, (fun h => nomatch h), (fun _ => ⟨zsub_3 (List.mem_of_getElem? (i := 17) rfl), Or.inr (zsub_3 (List.mem_of_getElem? (i := 18) rfl))⟩)⟩
noncomputable abbrev zmd_16 : zMd := (⟨"RaysOfShapes$Fraction", "putWhole", "(J)V"⟩, prog_3_method_7_code, 3, none, false, 1, 2)
set_option maxRecDepth 100000 in
theorem zmo_16 : zmOK zmd_16 := ⟨zsub_2 (List.mem_of_getElem? (i := 238) rfl), zsub_1 (List.mem_of_getElem? (i := 9) rfl), zdp_10, rfl, zmh_2, plainFor_of_name zpn_2, (fun h => nomatch h), (fun _ => ⟨zsub_2 (List.mem_of_getElem? (i := 236) rfl), Or.inr (zsub_2 (List.mem_of_getElem? (i := 237) rfl))⟩)⟩
noncomputable abbrev zmd_17 : zMd := (⟨"RaysOfShapes$Fraction", "put", "(JJ)V"⟩, prog_3_method_8_code, 12, none, false, 2, 2)
set_option maxRecDepth 100000 in
theorem zmo_17 : zmOK zmd_17 := ⟨zsub_3 (List.mem_of_getElem? (i := 36) rfl), zsub_1 (List.mem_of_getElem? (i := 9) rfl), zdp_11, rfl, zmh_2, plainFor_of_name zpn_2, (fun h => nomatch h), (fun _ => ⟨zsub_3 (List.mem_of_getElem? (i := 34) rfl), Or.inr (zsub_3 (List.mem_of_getElem? (i := 35) rfl))⟩)⟩
noncomputable abbrev zmd_18 : zMd := (⟨"RaysOfShapes$Fraction", "take", "(LRaysOfShapes$Fraction;)V"⟩, prog_3_method_9_code, 2, none, false, 1, 2)
set_option maxRecDepth 100000 in
theorem zmo_18 : zmOK zmd_18 := ⟨zsub_3 (List.mem_of_getElem? (i := 11) rfl), zsub_1 (List.mem_of_getElem? (i := 9) rfl), zdp_12, rfl, zmh_2, plainFor_of_name zpn_2, (fun h => nomatch h), (fun _ => ⟨zsub_3 (List.mem_of_getElem? (i := 9) rfl), Or.inr (zsub_3 (List.mem_of_getElem? (i := 10) rfl))⟩)⟩
noncomputable abbrev zmd_19 : zMd := (⟨"RaysOfShapes$Fraction", "takeLesser", "(LRaysOfShapes$Fraction;)V"⟩, prog_3_method_10_code, 2, none, false, 1, 2)
set_option maxRecDepth 100000 in
theorem zmo_19 : zmOK zmd_19 := ⟨zsub_3 (List.mem_of_getElem? (i := 15) rfl), zsub_1 (List.mem_of_getElem? (i := 9) rfl), zdp_12, rfl, zmh_2, plainFor_of_name zpn_2, (fun h => nomatch h), (fun _ => ⟨zsub_3 (List.mem_of_getElem? (i := 13) rfl), Or.inr (zsub_3 (List.mem_of_getElem? (i := 14) rfl))⟩)⟩
noncomputable abbrev zmd_20 : zMd := (⟨"RaysOfShapes$Fraction", "takeGreater", "(LRaysOfShapes$Fraction;)V"⟩, prog_3_method_11_code, 2, none, false, 1, 2)
set_option maxRecDepth 100000 in
theorem zmo_20 : zmOK zmd_20 := ⟨zsub_3 (List.mem_of_getElem? (i := 24) rfl), zsub_1 (List.mem_of_getElem? (i := 9) rfl), zdp_12, rfl, zmh_2, plainFor_of_name zpn_2, (fun h => nomatch h), (fun _ => ⟨zsub_3 (List.mem_of_getElem? (i := 22) rfl), Or.inr (zsub_3 (List.mem_of_getElem? (i := 23) rfl))⟩)⟩
noncomputable abbrev zmd_21 : zMd := (⟨"RaysOfShapes$Fraction", "changeWith", "(LRaysOfShapes$Fraction;)V"⟩, prog_3_method_12_code, 6, none, false, 1, 2)
set_option maxRecDepth 100000 in
theorem zmo_21 : zmOK zmd_21 := ⟨zsub_3 (List.mem_of_getElem? (i := 155) rfl), zsub_1 (List.mem_of_getElem? (i := 9) rfl), zdp_12, rfl, zmh_2, plainFor_of_name zpn_2, (fun h => nomatch h), (fun _ => ⟨zsub_3 (List.mem_of_getElem? (i := 153) rfl), Or.inr (zsub_3 (List.mem_of_getElem? (i := 154) rfl))⟩)⟩
noncomputable abbrev zmd_22 : zMd := (⟨"RaysOfShapes$Fraction", "turnSign", "()V"⟩, prog_3_method_13_code, 1, none, false, 0, 2)
set_option maxRecDepth 100000 in
theorem zmo_22 : zmOK zmd_22 := ⟨zsub_3 (List.mem_of_getElem? (i := 28) rfl), zsub_1 (List.mem_of_getElem? (i := 9) rfl), zdp_0, rfl, zmh_2, plainFor_of_name zpn_2, (fun h => nomatch h), (fun _ => ⟨zsub_3 (List.mem_of_getElem? (i := 26) rfl), Or.inr (zsub_3 (List.mem_of_getElem? (i := 27) rfl))⟩)⟩
noncomputable abbrev zmd_23 : zMd := (⟨"RaysOfShapes$Fraction", "becomeAmount", "()V"⟩, prog_3_method_14_code, 1, none, false, 0, 2)
set_option maxRecDepth 100000 in
theorem zmo_23 : zmOK zmd_23 := ⟨zsub_3 (List.mem_of_getElem? (i := 57) rfl), zsub_1 (List.mem_of_getElem? (i := 9) rfl), zdp_0, rfl, zmh_2, plainFor_of_name zpn_2, (fun h => nomatch h), (fun _ => ⟨zsub_3 (List.mem_of_getElem? (i := 55) rfl), Or.inr (zsub_3 (List.mem_of_getElem? (i := 56) rfl))⟩)⟩
noncomputable abbrev zmd_24 : zMd := (⟨"RaysOfShapes$Fraction", "lessen", "(II)V"⟩, prog_3_method_15_code, 3, none, false, 2, 2)
set_option maxRecDepth 100000 in
theorem zmo_24 : zmOK zmd_24 := ⟨zsub_3 (List.mem_of_getElem? (i := 61) rfl), zsub_1 (List.mem_of_getElem? (i := 9) rfl), zdp_13, rfl, zmh_2, plainFor_of_name zpn_2, (fun h => nomatch h), (fun _ => ⟨zsub_3 (List.mem_of_getElem? (i := 59) rfl), Or.inr (zsub_3 (List.mem_of_getElem? (i := 60) rfl))⟩)⟩
noncomputable abbrev zmd_25 : zMd := (⟨"RaysOfShapes$Fraction", "mix", "(LRaysOfShapes$Fraction;II)V"⟩, prog_3_method_16_code, 4, none, false, 3, 2)
set_option maxRecDepth 100000 in
theorem zmo_25 : zmOK zmd_25 := ⟨zsub_3 (List.mem_of_getElem? (i := 32) rfl), zsub_1 (List.mem_of_getElem? (i := 9) rfl), zdp_14, rfl, zmh_2, plainFor_of_name zpn_2, (fun h => nomatch h), (fun _ => ⟨zsub_3 (List.mem_of_getElem? (i := 30) rfl), Or.inr (zsub_3 (List.mem_of_getElem? (i := 31) rfl))⟩)⟩
noncomputable abbrev zmd_26 : zMd := (⟨"RaysOfShapes$Kinds", "isUnder", "(II)Z"⟩, prog_4_method_2_code, 4, some .boolean, true, 2, 3)
set_option maxRecDepth 100000 in
theorem zmo_26 : zmOK zmd_26 := ⟨zsub_2 (List.mem_of_getElem? (i := 174) rfl), zsub_1 (List.mem_of_getElem? (i := 14) rfl), zdp_15, rfl, zmh_3, plainFor_of_name zpn_3, (fun _ => zsub_2 (List.mem_of_getElem? (i := 173) rfl)), (fun h => nomatch h)⟩
noncomputable abbrev zmd_27 : zMd := (⟨"RaysOfShapes$Kinds", "isSolid", "(I)Z"⟩, prog_4_method_3_code, 1, some .boolean, true, 1, 3)
set_option maxRecDepth 100000 in
theorem zmo_27 : zmOK zmd_27 := ⟨zsub_2 (List.mem_of_getElem? (i := 222) rfl), zsub_1 (List.mem_of_getElem? (i := 14) rfl), zdp_16, rfl, zmh_3, plainFor_of_name zpn_3, (fun _ => zsub_2 (List.mem_of_getElem? (i := 221) rfl)), (fun h => nomatch h)⟩
noncomputable abbrev zmd_28 : zMd := (⟨"RaysOfShapes$Kinds", "isPair", "(I)Z"⟩, prog_4_method_4_code, 1, some .boolean, true, 1, 3)
set_option maxRecDepth 100000 in
theorem zmo_28 : zmOK zmd_28 := ⟨zsub_3 (List.mem_of_getElem? (i := 1) rfl), zsub_1 (List.mem_of_getElem? (i := 14) rfl), zdp_16, rfl, zmh_3, plainFor_of_name zpn_3, (fun _ => zsub_3 (List.mem_of_getElem? (i := 0) rfl)), (fun h => nomatch h)⟩
noncomputable abbrev zmd_29 : zMd := (⟨"RaysOfShapes$Kinds", "numbersOf", "(I)I"⟩, prog_4_method_5_code, 1, some .int, true, 1, 3)
set_option maxRecDepth 100000 in
theorem zmo_29 : zmOK zmd_29 := ⟨zsub_4 (List.mem_of_getElem? (i := 85) rfl), zsub_1 (List.mem_of_getElem? (i := 14) rfl), zdp_4, rfl, zmh_3, plainFor_of_name zpn_3, (fun _ => zsub_4 (List.mem_of_getElem? (i := 84) rfl)), (fun h => nomatch h)⟩
noncomputable abbrev zmd_30 : zMd := (⟨"RaysOfShapes$Kinds", "allMayBe", "(I[I)Z"⟩, prog_4_method_6_code, 3, some .boolean, true, 2, 3)
set_option maxRecDepth 100000 in
theorem zmo_30 : zmOK zmd_30 := ⟨zsub_4 (List.mem_of_getElem? (i := 184) rfl), zsub_1 (List.mem_of_getElem? (i := 14) rfl), zdp_17, rfl, zmh_3, plainFor_of_name zpn_3, (fun _ => zsub_4 (List.mem_of_getElem? (i := 183) rfl)), (fun h => nomatch h)⟩
noncomputable abbrev zmd_31 : zMd := (⟨"RaysOfShapes$Kinds", "mayBe", "(II[I)Z"⟩, prog_4_method_7_code, 4, some .boolean, true, 3, 3)
set_option maxRecDepth 100000 in
theorem zmo_31 : zmOK zmd_31 := ⟨zsub_4 (List.mem_of_getElem? (i := 97) rfl), zsub_1 (List.mem_of_getElem? (i := 14) rfl), zdp_18, rfl, zmh_3, plainFor_of_name zpn_3, (fun _ => zsub_4 (List.mem_of_getElem? (i := 96) rfl)), (fun h => nomatch h)⟩
noncomputable abbrev zmd_32 : zMd := (⟨"RaysOfShapes$Kinds", "isSpot", "(I)Z"⟩, prog_4_method_8_code, 1, some .boolean, true, 1, 3)
set_option maxRecDepth 100000 in
theorem zmo_32 : zmOK zmd_32 := ⟨zsub_4 (List.mem_of_getElem? (i := 100) rfl), zsub_1 (List.mem_of_getElem? (i := 14) rfl), zdp_16, rfl, zmh_3, plainFor_of_name zpn_3, (fun _ => zsub_4 (List.mem_of_getElem? (i := 99) rfl)), (fun h => nomatch h)⟩
noncomputable abbrev zmd_33 : zMd := (⟨"RaysOfShapes$Kinds", "mayHaveMinus", "(II)Z"⟩, prog_4_method_9_code, 2, some .boolean, true, 2, 3)
set_option maxRecDepth 100000 in
theorem zmo_33 : zmOK zmd_33 := ⟨zsub_4 (List.mem_of_getElem? (i := 94) rfl), zsub_1 (List.mem_of_getElem? (i := 14) rfl), zdp_15, rfl, zmh_3, plainFor_of_name zpn_3, (fun _ => zsub_4 (List.mem_of_getElem? (i := 93) rfl)), (fun h => nomatch h)⟩
noncomputable abbrev zmd_34 : zMd := (⟨"RaysOfShapes$Kinds", "wordOf", "(I)Ljava/lang/String;"⟩, prog_4_method_10_code, 1, some (.object "java/lang/String"), true, 1, 3)
set_option maxRecDepth 100000 in
theorem zmo_34 : zmOK zmd_34 := ⟨zsub_4 (List.mem_of_getElem? (i := 12) rfl), zsub_1 (List.mem_of_getElem? (i := 14) rfl), zdp_19, rfl, zmh_3, plainFor_of_name zpn_3, (fun _ => zsub_4 (List.mem_of_getElem? (i := 11) rfl)), (fun h => nomatch h)⟩
noncomputable abbrev zmd_35 : zMd := (⟨"RaysOfShapes$Looker", "<init>", "()V"⟩, prog_5_method_1_code, 2, none, false, 0, 4)
set_option maxRecDepth 100000 in
theorem zmo_35 : zmOK zmd_35 := ⟨zsub_1 (List.mem_of_getElem? (i := 158) rfl), zsub_1 (List.mem_of_getElem? (i := 7) rfl), zdp_0, rfl, zmh_4, plainFor_of_name zpn_4, (fun h => nomatch h), (fun _ => ⟨zsub_1 (List.mem_of_getElem? (i := 157) rfl), Or.inl rfl⟩)⟩
noncomputable abbrev zmd_36 : zMd := (⟨"RaysOfShapes$Looker", "forgetFrom", "(I)V"⟩, prog_5_method_2_code, 3, none, false, 1, 4)
set_option maxRecDepth 100000 in
theorem zmo_36 : zmOK zmd_36 := ⟨zsub_4 (List.mem_of_getElem? (i := 162) rfl), zsub_1 (List.mem_of_getElem? (i := 7) rfl), zdp_3, rfl, zmh_4, plainFor_of_name zpn_4, (fun h => nomatch h), (fun _ => ⟨zsub_4 (List.mem_of_getElem? (i := 160) rfl), Or.inr (zsub_4 (List.mem_of_getElem? (i := 161) rfl))⟩)⟩
noncomputable abbrev zmd_37 : zMd := (⟨"RaysOfShapes$Looker", "placesOf", "(LRaysOfShapes$Table;I)LRaysOfShapes$Places;"⟩, prog_5_method_3_code, 3, some (.object "RaysOfShapes$Places"), false, 2, 4)
set_option maxRecDepth 100000 in
theorem zmo_37 : zmOK zmd_37 := ⟨zsub_2 (List.mem_of_getElem? (i := 196) rfl), zsub_1 (List.mem_of_getElem? (i := 7) rfl), zdp_20, rfl, zmh_4, plainFor_of_name zpn_4, (fun h => nomatch h), (fun _ => ⟨zsub_2 (List.mem_of_getElem? (i := 194) rfl), Or.inr (zsub_2 (List.mem_of_getElem? (i := 195) rfl))⟩)⟩
noncomputable abbrev zmd_38 : zMd := (⟨"RaysOfShapes$Looker", "lookedAt", "(LRaysOfShapes$Table;I)I"⟩, prog_5_method_4_code, 3, some .int, false, 2, 4)
set_option maxRecDepth 100000 in
theorem zmo_38 : zmOK zmd_38 := ⟨zsub_5 (List.mem_of_getElem? (i := 37) rfl), zsub_1 (List.mem_of_getElem? (i := 7) rfl), zdp_21, rfl, zmh_4, plainFor_of_name zpn_4, (fun h => nomatch h), (fun _ => ⟨zsub_5 (List.mem_of_getElem? (i := 35) rfl), Or.inr (zsub_5 (List.mem_of_getElem? (i := 36) rfl))⟩)⟩
noncomputable abbrev zmd_39 : zMd := (⟨"RaysOfShapes$Looker", "look", "(LRaysOfShapes$Table;III)V"⟩, prog_5_method_5_code, 8, none, false, 4, 4)
set_option maxRecDepth 100000 in
theorem zmo_39 : zmOK zmd_39 := ⟨zsub_2 (List.mem_of_getElem? (i := 204) rfl), zsub_1 (List.mem_of_getElem? (i := 7) rfl), zdp_22, rfl, zmh_4, plainFor_of_name zpn_4, (fun h => nomatch h), (fun _ => ⟨zsub_2 (List.mem_of_getElem? (i := 203) rfl), Or.inr (zsub_0 (List.mem_of_getElem? (i := 6) rfl))⟩)⟩
noncomputable abbrev zmd_40 : zMd := (⟨"RaysOfShapes$Looker", "lookAtEighths", "(LRaysOfShapes$Table;III)V"⟩, prog_5_method_6_code, 6, none, false, 4, 4)
set_option maxRecDepth 100000 in
theorem zmo_40 : zmOK zmd_40 := ⟨zsub_3 (List.mem_of_getElem? (i := 176) rfl), zsub_1 (List.mem_of_getElem? (i := 7) rfl), zdp_22, rfl, zmh_4, plainFor_of_name zpn_4, (fun h => nomatch h), (fun _ => ⟨zsub_3 (List.mem_of_getElem? (i := 175) rfl), Or.inr (zsub_0 (List.mem_of_getElem? (i := 22) rfl))⟩)⟩
noncomputable abbrev zmd_41 : zMd := (⟨"RaysOfShapes$Measure", "<init>", "()V"⟩, prog_6_method_1_code, 2, none, false, 0, 5)
set_option maxRecDepth 100000 in
theorem zmo_41 : zmOK zmd_41 := ⟨zsub_1 (List.mem_of_getElem? (i := 166) rfl), zsub_1 (List.mem_of_getElem? (i := 8) rfl), zdp_0, rfl, zmh_5, plainFor_of_name zpn_5, (fun h => nomatch h), (fun _ => ⟨zsub_1 (List.mem_of_getElem? (i := 165) rfl), Or.inl rfl⟩)⟩
noncomputable abbrev zmd_42 : zMd := (⟨"RaysOfShapes$Measure", "worthAt", "(LRaysOfShapes$Table;IIII)LRaysOfShapes$Fraction;"⟩, prog_6_method_2_code, 6, some (.object "RaysOfShapes$Fraction"), false, 5, 5)
set_option maxRecDepth 100000 in
theorem zmo_42 : zmOK zmd_42 := ⟨zsub_2 (List.mem_of_getElem? (i := 214) rfl), zsub_1 (List.mem_of_getElem? (i := 8) rfl), zdp_23, rfl, zmh_5, plainFor_of_name zpn_5, (fun h => nomatch h), (fun _ => ⟨zsub_2 (List.mem_of_getElem? (i := 212) rfl), Or.inr (zsub_2 (List.mem_of_getElem? (i := 213) rfl))⟩)⟩
noncomputable abbrev zmd_43 : zMd := (⟨"RaysOfShapes$Measure", "find", "(LRaysOfShapes$Table;III)V"⟩, prog_6_method_3_code, 6, none, false, 4, 5)
set_option maxRecDepth 100000 in
theorem zmo_43 : zmOK zmd_43 := ⟨zsub_2 (List.mem_of_getElem? (i := 218) rfl), zsub_1 (List.mem_of_getElem? (i := 8) rfl), zdp_22, rfl, zmh_5, plainFor_of_name zpn_5, (fun h => nomatch h), (fun _ => ⟨zsub_2 (List.mem_of_getElem? (i := 217) rfl), Or.inr (zsub_0 (List.mem_of_getElem? (i := 7) rfl))⟩)⟩
noncomputable abbrev zmd_44 : zMd := (⟨"RaysOfShapes$Measure", "ofSolid", "(LRaysOfShapes$Table;III)I"⟩, prog_6_method_4_code, 10, some .int, false, 4, 5)
set_option maxRecDepth 100000 in
theorem zmo_44 : zmOK zmd_44 := ⟨zsub_2 (List.mem_of_getElem? (i := 226) rfl), zsub_1 (List.mem_of_getElem? (i := 8) rfl), zdp_24, rfl, zmh_5, plainFor_of_name zpn_5, (fun h => nomatch h), (fun _ => ⟨zsub_2 (List.mem_of_getElem? (i := 225) rfl), Or.inr (zsub_0 (List.mem_of_getElem? (i := 8) rfl))⟩)⟩
noncomputable abbrev zmd_45 : zMd := (⟨"RaysOfShapes$Measure", "ofPair", "(LRaysOfShapes$Table;III)V"⟩, prog_6_method_5_code, 9, none, false, 4, 5)
set_option maxRecDepth 100000 in
theorem zmo_45 : zmOK zmd_45 := ⟨zsub_3 (List.mem_of_getElem? (i := 5) rfl), zsub_1 (List.mem_of_getElem? (i := 8) rfl), zdp_22, rfl, zmh_5, plainFor_of_name zpn_5, (fun h => nomatch h), (fun _ => ⟨zsub_3 (List.mem_of_getElem? (i := 4) rfl), Or.inr (zsub_0 (List.mem_of_getElem? (i := 9) rfl))⟩)⟩
noncomputable abbrev zmd_46 : zMd := (⟨"RaysOfShapes$Measure", "ofChange", "(LRaysOfShapes$Table;III)V"⟩, prog_6_method_6_code, 6, none, false, 4, 5)
set_option maxRecDepth 100000 in
theorem zmo_46 : zmOK zmd_46 := ⟨zsub_3 (List.mem_of_getElem? (i := 43) rfl), zsub_1 (List.mem_of_getElem? (i := 8) rfl), zdp_22, rfl, zmh_5, plainFor_of_name zpn_5, (fun h => nomatch h), (fun _ => ⟨zsub_3 (List.mem_of_getElem? (i := 42) rfl), Or.inr (zsub_0 (List.mem_of_getElem? (i := 10) rfl))⟩)⟩
noncomputable abbrev zmd_47 : zMd := (⟨"RaysOfShapes$Measure", "move", "(LRaysOfShapes$Table;II)V"⟩, prog_6_method_7_code, 10, none, false, 3, 5)
set_option maxRecDepth 100000 in
theorem zmo_47 : zmOK zmd_47 := ⟨zsub_3 (List.mem_of_getElem? (i := 47) rfl), zsub_1 (List.mem_of_getElem? (i := 8) rfl), zdp_25, rfl, zmh_5, plainFor_of_name zpn_5, (fun h => nomatch h), (fun _ => ⟨zsub_3 (List.mem_of_getElem? (i := 46) rfl), Or.inr (zsub_0 (List.mem_of_getElem? (i := 11) rfl))⟩)⟩
noncomputable abbrev zmd_48 : zMd := (⟨"RaysOfShapes$Places", "<init>", "()V"⟩, prog_7_method_1_code, 1, none, false, 0, 6)
set_option maxRecDepth 100000 in
theorem zmo_48 : zmOK zmd_48 := ⟨zsub_1 (List.mem_of_getElem? (i := 71) rfl), zsub_1 (List.mem_of_getElem? (i := 4) rfl), zdp_0, rfl, zmh_6, plainFor_of_name zpn_6, (fun h => nomatch h), (fun _ => ⟨zsub_1 (List.mem_of_getElem? (i := 70) rfl), Or.inl rfl⟩)⟩
noncomputable abbrev zmd_49 : zMd := (⟨"RaysOfShapes$Places", "contains", "(I)Z"⟩, prog_7_method_2_code, 2, some .boolean, false, 1, 6)
set_option maxRecDepth 100000 in
theorem zmo_49 : zmOK zmd_49 := ⟨zsub_5 (List.mem_of_getElem? (i := 29) rfl), zsub_1 (List.mem_of_getElem? (i := 4) rfl), zdp_16, rfl, zmh_6, plainFor_of_name zpn_6, (fun h => nomatch h), (fun _ => ⟨zsub_5 (List.mem_of_getElem? (i := 27) rfl), Or.inr (zsub_5 (List.mem_of_getElem? (i := 28) rfl))⟩)⟩
noncomputable abbrev zmd_50 : zMd := (⟨"RaysOfShapes$Places", "add", "(I)V"⟩, prog_7_method_3_code, 2, none, false, 1, 6)
set_option maxRecDepth 100000 in
theorem zmo_50 : zmOK zmd_50 := ⟨zsub_3 (List.mem_of_getElem? (i := 69) rfl), zsub_1 (List.mem_of_getElem? (i := 4) rfl), zdp_3, rfl, zmh_6, plainFor_of_name zpn_6, (fun h => nomatch h), (fun _ => ⟨zsub_3 (List.mem_of_getElem? (i := 67) rfl), Or.inr (zsub_3 (List.mem_of_getElem? (i := 68) rfl))⟩)⟩
noncomputable abbrev zmd_51 : zMd := (⟨"RaysOfShapes$Places", "addCube", "(IIII)V"⟩, prog_7_method_4_code, 8, none, false, 4, 6)
set_option maxRecDepth 100000 in
theorem zmo_51 : zmOK zmd_51 := ⟨zsub_3 (List.mem_of_getElem? (i := 164) rfl), zsub_1 (List.mem_of_getElem? (i := 4) rfl), zdp_26, rfl, zmh_6, plainFor_of_name zpn_6, (fun h => nomatch h), (fun _ => ⟨zsub_3 (List.mem_of_getElem? (i := 162) rfl), Or.inr (zsub_3 (List.mem_of_getElem? (i := 163) rfl))⟩)⟩
noncomputable abbrev zmd_52 : zMd := (⟨"RaysOfShapes$Places", "clear", "()V"⟩, prog_7_method_5_code, 2, none, false, 0, 6)
set_option maxRecDepth 100000 in
theorem zmo_52 : zmOK zmd_52 := ⟨zsub_2 (List.mem_of_getElem? (i := 200) rfl), zsub_1 (List.mem_of_getElem? (i := 4) rfl), zdp_0, rfl, zmh_6, plainFor_of_name zpn_6, (fun h => nomatch h), (fun _ => ⟨zsub_2 (List.mem_of_getElem? (i := 198) rfl), Or.inr (zsub_2 (List.mem_of_getElem? (i := 199) rfl))⟩)⟩
noncomputable abbrev zmd_53 : zMd := (⟨"RaysOfShapes$Places", "takeFrom", "(LRaysOfShapes$Places;)V"⟩, prog_7_method_6_code, 3, none, false, 1, 6)
set_option maxRecDepth 100000 in
theorem zmo_53 : zmOK zmd_53 := ⟨zsub_6 (List.mem_of_getElem? (i := 35) rfl), zsub_1 (List.mem_of_getElem? (i := 4) rfl), zdp_27, rfl, zmh_6, plainFor_of_name zpn_6, (fun h => nomatch h), (fun _ => ⟨zsub_6 (List.mem_of_getElem? (i := 33) rfl), Or.inr (zsub_6 (List.mem_of_getElem? (i := 34) rfl))⟩)⟩
noncomputable abbrev zmd_54 : zMd := (⟨"RaysOfShapes$Places", "becomeBall", "(IIII)V"⟩, prog_7_method_7_code, 8, none, false, 4, 6)
set_option maxRecDepth 100000 in
theorem zmo_54 : zmOK zmd_54 := ⟨zsub_6 (List.mem_of_getElem? (i := 3) rfl), zsub_1 (List.mem_of_getElem? (i := 4) rfl), zdp_26, rfl, zmh_6, plainFor_of_name zpn_6, (fun h => nomatch h), (fun _ => ⟨zsub_6 (List.mem_of_getElem? (i := 1) rfl), Or.inr (zsub_6 (List.mem_of_getElem? (i := 2) rfl))⟩)⟩
noncomputable abbrev zmd_55 : zMd := (⟨"RaysOfShapes$Places", "becomeCarving", "(LRaysOfShapes$Places;LRaysOfShapes$Places;I)V"⟩, prog_7_method_8_code, 9, none, false, 3, 6)
set_option maxRecDepth 100000 in
theorem zmo_55 : zmOK zmd_55 := ⟨zsub_5 (List.mem_of_getElem? (i := 195) rfl), zsub_1 (List.mem_of_getElem? (i := 4) rfl), zdp_28, rfl, zmh_6, plainFor_of_name zpn_6, (fun h => nomatch h), (fun _ => ⟨zsub_5 (List.mem_of_getElem? (i := 193) rfl), Or.inr (zsub_5 (List.mem_of_getElem? (i := 194) rfl))⟩)⟩
noncomputable abbrev zmd_56 : zMd := (⟨"RaysOfShapes$Places", "flip", "(LRaysOfShapes$Places;)V"⟩, prog_7_method_9_code, 3, none, false, 1, 6)
set_option maxRecDepth 100000 in
theorem zmo_56 : zmOK zmd_56 := ⟨zsub_5 (List.mem_of_getElem? (i := 200) rfl), zsub_1 (List.mem_of_getElem? (i := 4) rfl), zdp_27, rfl, zmh_6, plainFor_of_name zpn_6, (fun h => nomatch h), (fun _ => ⟨zsub_5 (List.mem_of_getElem? (i := 198) rfl), Or.inr (zsub_5 (List.mem_of_getElem? (i := 199) rfl))⟩)⟩
noncomputable abbrev zmd_57 : zMd := (⟨"RaysOfShapes$Places", "size", "()I"⟩, prog_7_method_10_code, 3, some .int, false, 0, 6)
set_option maxRecDepth 100000 in
theorem zmo_57 : zmOK zmd_57 := ⟨zsub_3 (List.mem_of_getElem? (i := 181) rfl), zsub_1 (List.mem_of_getElem? (i := 4) rfl), zdp_2, rfl, zmh_6, plainFor_of_name zpn_6, (fun h => nomatch h), (fun _ => ⟨zsub_3 (List.mem_of_getElem? (i := 179) rfl), Or.inr (zsub_3 (List.mem_of_getElem? (i := 180) rfl))⟩)⟩
noncomputable abbrev zmd_58 : zMd := (⟨"RaysOfShapes$Places", "sizeOfBoth", "(LRaysOfShapes$Places;)I"⟩, prog_7_method_11_code, 4, some .int, false, 1, 6)
set_option maxRecDepth 100000 in
theorem zmo_58 : zmOK zmd_58 := ⟨zsub_3 (List.mem_of_getElem? (i := 195) rfl), zsub_1 (List.mem_of_getElem? (i := 4) rfl), zdp_29, rfl, zmh_6, plainFor_of_name zpn_6, (fun h => nomatch h), (fun _ => ⟨zsub_3 (List.mem_of_getElem? (i := 193) rfl), Or.inr (zsub_3 (List.mem_of_getElem? (i := 194) rfl))⟩)⟩
noncomputable abbrev zmd_59 : zMd := (⟨"RaysOfShapes$Places", "sizeOfOne", "(LRaysOfShapes$Places;)I"⟩, prog_7_method_12_code, 4, some .int, false, 1, 6)
set_option maxRecDepth 100000 in
theorem zmo_59 : zmOK zmd_59 := ⟨zsub_3 (List.mem_of_getElem? (i := 191) rfl), zsub_1 (List.mem_of_getElem? (i := 4) rfl), zdp_29, rfl, zmh_6, plainFor_of_name zpn_6, (fun h => nomatch h), (fun _ => ⟨zsub_3 (List.mem_of_getElem? (i := 189) rfl), Or.inr (zsub_3 (List.mem_of_getElem? (i := 190) rfl))⟩)⟩
noncomputable abbrev zmd_60 : zMd := (⟨"RaysOfShapes$Places", "sizeAt", "(II)I"⟩, prog_7_method_13_code, 7, some .int, false, 2, 6)
set_option maxRecDepth 100000 in
theorem zmo_60 : zmOK zmd_60 := ⟨zsub_5 (List.mem_of_getElem? (i := 56) rfl), zsub_1 (List.mem_of_getElem? (i := 4) rfl), zdp_30, rfl, zmh_6, plainFor_of_name zpn_6, (fun h => nomatch h), (fun _ => ⟨zsub_5 (List.mem_of_getElem? (i := 54) rfl), Or.inr (zsub_5 (List.mem_of_getElem? (i := 55) rfl))⟩)⟩
noncomputable abbrev zmd_61 : zMd := (⟨"RaysOfShapes$Places", "ofThem", "(I)I"⟩, prog_7_method_14_code, 4, some .int, false, 1, 6)
set_option maxRecDepth 100000 in
theorem zmo_61 : zmOK zmd_61 := ⟨zsub_5 (List.mem_of_getElem? (i := 46) rfl), zsub_1 (List.mem_of_getElem? (i := 4) rfl), zdp_4, rfl, zmh_6, plainFor_of_name zpn_6, (fun h => nomatch h), (fun _ => ⟨zsub_5 (List.mem_of_getElem? (i := 44) rfl), Or.inr (zsub_5 (List.mem_of_getElem? (i := 45) rfl))⟩)⟩
noncomputable abbrev zmd_62 : zMd := (⟨"RaysOfShapes$Reader", "<init>", "()V"⟩, prog_8_method_1_code, 1, none, false, 0, 7)
set_option maxRecDepth 100000 in
theorem zmo_62 : zmOK zmd_62 := ⟨zsub_1 (List.mem_of_getElem? (i := 118) rfl), zsub_1 (List.mem_of_getElem? (i := 6) rfl), zdp_0, rfl, zmh_7, plainFor_of_name zpn_7, (fun h => nomatch h), (fun _ => ⟨zsub_1 (List.mem_of_getElem? (i := 117) rfl), Or.inl rfl⟩)⟩
noncomputable abbrev zmd_63 : zMd := (⟨"RaysOfShapes$Reader", "size", "()I"⟩, prog_8_method_2_code, 1, some .int, false, 0, 7)
set_option maxRecDepth 100000 in
theorem zmo_63 : zmOK zmd_63 := ⟨zsub_3 (List.mem_of_getElem? (i := 216) rfl), zsub_1 (List.mem_of_getElem? (i := 6) rfl), zdp_2, rfl, zmh_7, plainFor_of_name zpn_7, (fun h => nomatch h), (fun _ => ⟨zsub_3 (List.mem_of_getElem? (i := 214) rfl), Or.inr (zsub_3 (List.mem_of_getElem? (i := 215) rfl))⟩)⟩
noncomputable abbrev zmd_64 : zMd := (⟨"RaysOfShapes$Reader", "made", "()I"⟩, prog_8_method_3_code, 1, some .int, false, 0, 7)
set_option maxRecDepth 100000 in
theorem zmo_64 : zmOK zmd_64 := ⟨zsub_4 (List.mem_of_getElem? (i := 154) rfl), zsub_1 (List.mem_of_getElem? (i := 6) rfl), zdp_2, rfl, zmh_7, plainFor_of_name zpn_7, (fun h => nomatch h), (fun _ => ⟨zsub_4 (List.mem_of_getElem? (i := 152) rfl), Or.inr (zsub_4 (List.mem_of_getElem? (i := 153) rfl))⟩)⟩
noncomputable abbrev zmd_65 : zMd := (⟨"RaysOfShapes$Reader", "isFull", "()Z"⟩, prog_8_method_4_code, 1, some .boolean, false, 0, 7)
set_option maxRecDepth 100000 in
theorem zmo_65 : zmOK zmd_65 := ⟨zsub_3 (List.mem_of_getElem? (i := 208) rfl), zsub_1 (List.mem_of_getElem? (i := 6) rfl), zdp_8, rfl, zmh_7, plainFor_of_name zpn_7, (fun h => nomatch h), (fun _ => ⟨zsub_3 (List.mem_of_getElem? (i := 206) rfl), Or.inr (zsub_3 (List.mem_of_getElem? (i := 207) rfl))⟩)⟩
noncomputable abbrev zmd_66 : zMd := (⟨"RaysOfShapes$Reader", "put", "(I)V"⟩, prog_8_method_5_code, 2, none, false, 1, 7)
set_option maxRecDepth 100000 in
theorem zmo_66 : zmOK zmd_66 := ⟨zsub_3 (List.mem_of_getElem? (i := 212) rfl), zsub_1 (List.mem_of_getElem? (i := 6) rfl), zdp_3, rfl, zmh_7, plainFor_of_name zpn_7, (fun h => nomatch h), (fun _ => ⟨zsub_3 (List.mem_of_getElem? (i := 210) rfl), Or.inr (zsub_3 (List.mem_of_getElem? (i := 211) rfl))⟩)⟩
noncomputable abbrev zmd_67 : zMd := (⟨"RaysOfShapes$Reader", "empty", "()V"⟩, prog_8_method_6_code, 1, none, false, 0, 7)
set_option maxRecDepth 100000 in
theorem zmo_67 : zmOK zmd_67 := ⟨zsub_3 (List.mem_of_getElem? (i := 224) rfl), zsub_1 (List.mem_of_getElem? (i := 6) rfl), zdp_0, rfl, zmh_7, plainFor_of_name zpn_7, (fun h => nomatch h), (fun _ => ⟨zsub_3 (List.mem_of_getElem? (i := 222) rfl), Or.inr (zsub_3 (List.mem_of_getElem? (i := 223) rfl))⟩)⟩
noncomputable abbrev zmd_68 : zMd := (⟨"RaysOfShapes$Reader", "read", "(LRaysOfShapes$Table;)I"⟩, prog_8_method_7_code, 4, some .int, false, 1, 7)
set_option maxRecDepth 100000 in
theorem zmo_68 : zmOK zmd_68 := ⟨zsub_3 (List.mem_of_getElem? (i := 232) rfl), zsub_1 (List.mem_of_getElem? (i := 6) rfl), zdp_31, rfl, zmh_7, plainFor_of_name zpn_7, (fun h => nomatch h), (fun _ => ⟨zsub_3 (List.mem_of_getElem? (i := 230) rfl), Or.inr (zsub_3 (List.mem_of_getElem? (i := 231) rfl))⟩)⟩
noncomputable abbrev zmd_69 : zMd := (⟨"RaysOfShapes$Reader", "begin", "(LRaysOfShapes$Table;)Z"⟩, prog_8_method_8_code, 5, some .boolean, false, 1, 7)
set_option maxRecDepth 100000 in
theorem zmo_69 : zmOK zmd_69 := ⟨zsub_3 (List.mem_of_getElem? (i := 236) rfl), zsub_1 (List.mem_of_getElem? (i := 6) rfl), zdp_32, rfl, zmh_7, plainFor_of_name zpn_7, (fun h => nomatch h), (fun _ => ⟨zsub_3 (List.mem_of_getElem? (i := 235) rfl), Or.inr (zsub_0 (List.mem_of_getElem? (i := 24) rfl))⟩)⟩
noncomputable abbrev zmd_70 : zMd := (⟨"RaysOfShapes$Reader", "begun", "(II)Z"⟩, prog_8_method_9_code, 3, some .boolean, false, 2, 7)
set_option maxRecDepth 100000 in
theorem zmo_70 : zmOK zmd_70 := ⟨zsub_4 (List.mem_of_getElem? (i := 150) rfl), zsub_1 (List.mem_of_getElem? (i := 6) rfl), zdp_15, rfl, zmh_7, plainFor_of_name zpn_7, (fun h => nomatch h), (fun _ => ⟨zsub_4 (List.mem_of_getElem? (i := 149) rfl), Or.inr (zsub_0 (List.mem_of_getElem? (i := 37) rfl))⟩)⟩
noncomputable abbrev zmd_71 : zMd := (⟨"RaysOfShapes$Reader", "end", "(LRaysOfShapes$Table;I)Z"⟩, prog_8_method_10_code, 8, some .boolean, false, 2, 7)
set_option maxRecDepth 100000 in
theorem zmo_71 : zmOK zmd_71 := ⟨zsub_4 (List.mem_of_getElem? (i := 135) rfl), zsub_1 (List.mem_of_getElem? (i := 6) rfl), zdp_33, rfl, zmh_7, plainFor_of_name zpn_7, (fun h => nomatch h), (fun _ => ⟨zsub_4 (List.mem_of_getElem? (i := 134) rfl), Or.inr (zsub_0 (List.mem_of_getElem? (i := 35) rfl))⟩)⟩
noncomputable abbrev zmd_72 : zMd := (⟨"RaysOfShapes$Reader", "write", "(LRaysOfShapes$Table;III)I"⟩, prog_8_method_11_code, 6, some .int, false, 4, 7)
set_option maxRecDepth 100000 in
theorem zmo_72 : zmOK zmd_72 := ⟨zsub_4 (List.mem_of_getElem? (i := 107) rfl), zsub_1 (List.mem_of_getElem? (i := 6) rfl), zdp_24, rfl, zmh_7, plainFor_of_name zpn_7, (fun h => nomatch h), (fun _ => ⟨zsub_4 (List.mem_of_getElem? (i := 106) rfl), Or.inr (zsub_0 (List.mem_of_getElem? (i := 31) rfl))⟩)⟩
noncomputable abbrev zmd_73 : zMd := (⟨"RaysOfShapes$Reader", "isFault", "(I)Z"⟩, prog_8_method_12_code, 2, some .boolean, false, 1, 7)
set_option maxRecDepth 100000 in
theorem zmo_73 : zmOK zmd_73 := ⟨zsub_4 (List.mem_of_getElem? (i := 82) rfl), zsub_1 (List.mem_of_getElem? (i := 6) rfl), zdp_16, rfl, zmh_7, plainFor_of_name zpn_7, (fun h => nomatch h), (fun _ => ⟨zsub_4 (List.mem_of_getElem? (i := 81) rfl), Or.inr (zsub_0 (List.mem_of_getElem? (i := 29) rfl))⟩)⟩
noncomputable abbrev zmd_74 : zMd := (⟨"RaysOfShapes$Reader", "byteAt", "(I)I"⟩, prog_8_method_13_code, 2, some .int, false, 1, 7)
set_option maxRecDepth 100000 in
theorem zmo_74 : zmOK zmd_74 := ⟨zsub_4 (List.mem_of_getElem? (i := 4) rfl), zsub_1 (List.mem_of_getElem? (i := 6) rfl), zdp_4, rfl, zmh_7, plainFor_of_name zpn_7, (fun h => nomatch h), (fun _ => ⟨zsub_4 (List.mem_of_getElem? (i := 3) rfl), Or.inr (zsub_0 (List.mem_of_getElem? (i := 26) rfl))⟩)⟩
noncomputable abbrev zmd_75 : zMd := (⟨"RaysOfShapes$Reader", "skipBlanks", "()V"⟩, prog_8_method_14_code, 2, none, false, 0, 7)
set_option maxRecDepth 100000 in
theorem zmo_75 : zmOK zmd_75 := ⟨zsub_4 (List.mem_of_getElem? (i := 0) rfl), zsub_1 (List.mem_of_getElem? (i := 6) rfl), zdp_0, rfl, zmh_7, plainFor_of_name zpn_7, (fun h => nomatch h), (fun _ => ⟨zsub_3 (List.mem_of_getElem? (i := 239) rfl), Or.inr (zsub_0 (List.mem_of_getElem? (i := 25) rfl))⟩)⟩
noncomputable abbrev zmd_76 : zMd := (⟨"RaysOfShapes$Reader", "readSign", "(I)Z"⟩, prog_8_method_15_code, 2, some .boolean, false, 1, 7)
set_option maxRecDepth 100000 in
theorem zmo_76 : zmOK zmd_76 := ⟨zsub_4 (List.mem_of_getElem? (i := 141) rfl), zsub_1 (List.mem_of_getElem? (i := 6) rfl), zdp_16, rfl, zmh_7, plainFor_of_name zpn_7, (fun h => nomatch h), (fun _ => ⟨zsub_4 (List.mem_of_getElem? (i := 140) rfl), Or.inr (zsub_0 (List.mem_of_getElem? (i := 36) rfl))⟩)⟩
noncomputable abbrev zmd_77 : zMd := (⟨"RaysOfShapes$Reader", "readWord", "()I"⟩, prog_8_method_16_code, 3, some .int, false, 0, 7)
set_option maxRecDepth 100000 in
theorem zmo_77 : zmOK zmd_77 := ⟨zsub_4 (List.mem_of_getElem? (i := 8) rfl), zsub_1 (List.mem_of_getElem? (i := 6) rfl), zdp_2, rfl, zmh_7, plainFor_of_name zpn_7, (fun h => nomatch h), (fun _ => ⟨zsub_4 (List.mem_of_getElem? (i := 7) rfl), Or.inr (zsub_0 (List.mem_of_getElem? (i := 27) rfl))⟩)⟩
noncomputable abbrev zmd_78 : zMd := (⟨"RaysOfShapes$Reader", "isWord", "(ILjava/lang/String;)Z"⟩, prog_8_method_17_code, 4, some .boolean, false, 2, 7)
set_option maxRecDepth 100000 in
theorem zmo_78 : zmOK zmd_78 := ⟨zsub_4 (List.mem_of_getElem? (i := 30) rfl), zsub_1 (List.mem_of_getElem? (i := 6) rfl), zdp_34, rfl, zmh_7, plainFor_of_name zpn_7, (fun h => nomatch h), (fun _ => ⟨zsub_4 (List.mem_of_getElem? (i := 29) rfl), Or.inr (zsub_0 (List.mem_of_getElem? (i := 28) rfl))⟩)⟩
noncomputable abbrev zmd_79 : zMd := (⟨"RaysOfShapes$Reader", "readNumber", "(II)Z"⟩, prog_8_method_18_code, 7, some .boolean, false, 2, 7)
set_option maxRecDepth 100000 in
theorem zmo_79 : zmOK zmd_79 := ⟨zsub_4 (List.mem_of_getElem? (i := 91) rfl), zsub_1 (List.mem_of_getElem? (i := 6) rfl), zdp_15, rfl, zmh_7, plainFor_of_name zpn_7, (fun h => nomatch h), (fun _ => ⟨zsub_4 (List.mem_of_getElem? (i := 90) rfl), Or.inr (zsub_0 (List.mem_of_getElem? (i := 30) rfl))⟩)⟩
noncomputable abbrev zmd_80 : zMd := (⟨"RaysOfShapes$Shelves", "<init>", "()V"⟩, prog_9_method_1_code, 2, none, false, 0, 8)
set_option maxRecDepth 100000 in
theorem zmo_80 : zmOK zmd_80 := ⟨zsub_1 (List.mem_of_getElem? (i := 102) rfl), zsub_1 (List.mem_of_getElem? (i := 5) rfl), zdp_0, rfl, zmh_8, plainFor_of_name zpn_8, (fun h => nomatch h), (fun _ => ⟨zsub_1 (List.mem_of_getElem? (i := 101) rfl), Or.inl rfl⟩)⟩
noncomputable abbrev zmd_81 : zMd := (⟨"RaysOfShapes$Shelves", "heldBy", "(I)I"⟩, prog_9_method_2_code, 2, some .int, false, 1, 8)
set_option maxRecDepth 100000 in
theorem zmo_81 : zmOK zmd_81 := ⟨zsub_2 (List.mem_of_getElem? (i := 101) rfl), zsub_1 (List.mem_of_getElem? (i := 5) rfl), zdp_4, rfl, zmh_8, plainFor_of_name zpn_8, (fun h => nomatch h), (fun _ => ⟨zsub_2 (List.mem_of_getElem? (i := 99) rfl), Or.inr (zsub_2 (List.mem_of_getElem? (i := 100) rfl))⟩)⟩
noncomputable abbrev zmd_82 : zMd := (⟨"RaysOfShapes$Shelves", "sizeOf", "(I)I"⟩, prog_9_method_3_code, 2, some .int, false, 1, 8)
set_option maxRecDepth 100000 in
theorem zmo_82 : zmOK zmd_82 := ⟨zsub_2 (List.mem_of_getElem? (i := 105) rfl), zsub_1 (List.mem_of_getElem? (i := 5) rfl), zdp_4, rfl, zmh_8, plainFor_of_name zpn_8, (fun h => nomatch h), (fun _ => ⟨zsub_2 (List.mem_of_getElem? (i := 103) rfl), Or.inr (zsub_2 (List.mem_of_getElem? (i := 104) rfl))⟩)⟩
noncomputable abbrev zmd_83 : zMd := (⟨"RaysOfShapes$Shelves", "full", "()I"⟩, prog_9_method_4_code, 3, some .int, false, 0, 8)
set_option maxRecDepth 100000 in
theorem zmo_83 : zmOK zmd_83 := ⟨zsub_6 (List.mem_of_getElem? (i := 51) rfl), zsub_1 (List.mem_of_getElem? (i := 5) rfl), zdp_2, rfl, zmh_8, plainFor_of_name zpn_8, (fun h => nomatch h), (fun _ => ⟨zsub_6 (List.mem_of_getElem? (i := 49) rfl), Or.inr (zsub_6 (List.mem_of_getElem? (i := 50) rfl))⟩)⟩
noncomputable abbrev zmd_84 : zMd := (⟨"RaysOfShapes$Shelves", "putRow", "(III)V"⟩, prog_9_method_5_code, 5, none, false, 3, 8)
set_option maxRecDepth 100000 in
theorem zmo_84 : zmOK zmd_84 := ⟨zsub_2 (List.mem_of_getElem? (i := 88) rfl), zsub_1 (List.mem_of_getElem? (i := 5) rfl), zdp_35, rfl, zmh_8, plainFor_of_name zpn_8, (fun h => nomatch h), (fun _ => ⟨zsub_2 (List.mem_of_getElem? (i := 86) rfl), Or.inr (zsub_2 (List.mem_of_getElem? (i := 87) rfl))⟩)⟩
noncomputable abbrev zmd_85 : zMd := (⟨"RaysOfShapes$Shelves", "putShape", "(II)V"⟩, prog_9_method_6_code, 3, none, false, 2, 8)
set_option maxRecDepth 100000 in
theorem zmo_85 : zmOK zmd_85 := ⟨zsub_2 (List.mem_of_getElem? (i := 159) rfl), zsub_1 (List.mem_of_getElem? (i := 5) rfl), zdp_13, rfl, zmh_8, plainFor_of_name zpn_8, (fun h => nomatch h), (fun _ => ⟨zsub_2 (List.mem_of_getElem? (i := 157) rfl), Or.inr (zsub_2 (List.mem_of_getElem? (i := 158) rfl))⟩)⟩
noncomputable abbrev zmd_86 : zMd := (⟨"RaysOfShapes$Shelves", "keepShapesBelow", "(I)V"⟩, prog_9_method_7_code, 3, none, false, 1, 8)
set_option maxRecDepth 100000 in
theorem zmo_86 : zmOK zmd_86 := ⟨zsub_4 (List.mem_of_getElem? (i := 225) rfl), zsub_1 (List.mem_of_getElem? (i := 5) rfl), zdp_3, rfl, zmh_8, plainFor_of_name zpn_8, (fun h => nomatch h), (fun _ => ⟨zsub_4 (List.mem_of_getElem? (i := 223) rfl), Or.inr (zsub_4 (List.mem_of_getElem? (i := 224) rfl))⟩)⟩
noncomputable abbrev zmd_87 : zMd := (⟨"RaysOfShapes$Shelves", "isElement", "(II)Z"⟩, prog_9_method_8_code, 3, some .boolean, false, 2, 8)
set_option maxRecDepth 100000 in
theorem zmo_87 : zmOK zmd_87 := ⟨zsub_2 (List.mem_of_getElem? (i := 113) rfl), zsub_1 (List.mem_of_getElem? (i := 5) rfl), zdp_15, rfl, zmh_8, plainFor_of_name zpn_8, (fun h => nomatch h), (fun _ => ⟨zsub_2 (List.mem_of_getElem? (i := 112) rfl), Or.inr (zsub_0 (List.mem_of_getElem? (i := 2) rfl))⟩)⟩
noncomputable abbrev zmd_88 : zMd := (⟨"RaysOfShapes$Shelves", "elementOf", "(II)J"⟩, prog_9_method_9_code, 3, some .long, false, 2, 8)
set_option maxRecDepth 100000 in
theorem zmo_88 : zmOK zmd_88 := ⟨zsub_2 (List.mem_of_getElem? (i := 139) rfl), zsub_1 (List.mem_of_getElem? (i := 5) rfl), zdp_36, rfl, zmh_8, plainFor_of_name zpn_8, (fun h => nomatch h), (fun _ => ⟨zsub_2 (List.mem_of_getElem? (i := 137) rfl), Or.inr (zsub_2 (List.mem_of_getElem? (i := 138) rfl))⟩)⟩
noncomputable abbrev zmd_89 : zMd := (⟨"RaysOfShapes$Shelves", "putElement", "(IIJ)V"⟩, prog_9_method_10_code, 5, none, false, 3, 8)
set_option maxRecDepth 100000 in
theorem zmo_89 : zmOK zmd_89 := ⟨zsub_2 (List.mem_of_getElem? (i := 109) rfl), zsub_1 (List.mem_of_getElem? (i := 5) rfl), zdp_37, rfl, zmh_8, plainFor_of_name zpn_8, (fun h => nomatch h), (fun _ => ⟨zsub_2 (List.mem_of_getElem? (i := 107) rfl), Or.inr (zsub_2 (List.mem_of_getElem? (i := 108) rfl))⟩)⟩
noncomputable abbrev zmd_90 : zMd := (⟨"RaysOfShapes$Shelves", "narrowed", "(IJ)J"⟩, prog_9_method_11_code, 3, some .long, true, 2, 8)
set_option maxRecDepth 100000 in
theorem zmo_90 : zmOK zmd_90 := ⟨zsub_2 (List.mem_of_getElem? (i := 117) rfl), zsub_1 (List.mem_of_getElem? (i := 5) rfl), zdp_38, rfl, zmh_8, plainFor_of_name zpn_8, (fun _ => zsub_2 (List.mem_of_getElem? (i := 116) rfl)), (fun h => nomatch h)⟩
noncomputable abbrev zmd_91 : zMd := (⟨"RaysOfShapes$Shelves", "moveElements", "(IIIII)V"⟩, prog_9_method_12_code, 6, none, false, 5, 8)
set_option maxRecDepth 100000 in
theorem zmo_91 : zmOK zmd_91 := ⟨zsub_2 (List.mem_of_getElem? (i := 128) rfl), zsub_1 (List.mem_of_getElem? (i := 5) rfl), zdp_39, rfl, zmh_8, plainFor_of_name zpn_8, (fun h => nomatch h), (fun _ => ⟨zsub_2 (List.mem_of_getElem? (i := 126) rfl), Or.inr (zsub_2 (List.mem_of_getElem? (i := 127) rfl))⟩)⟩
noncomputable abbrev zmd_92 : zMd := (⟨"RaysOfShapes$Span", "<init>", "()V"⟩, prog_10_method_1_code, 2, none, false, 0, 9)
set_option maxRecDepth 100000 in
theorem zmo_92 : zmOK zmd_92 := ⟨zsub_1 (List.mem_of_getElem? (i := 193) rfl), zsub_1 (List.mem_of_getElem? (i := 10) rfl), zdp_0, rfl, zmh_9, plainFor_of_name zpn_9, (fun h => nomatch h), (fun _ => ⟨zsub_1 (List.mem_of_getElem? (i := 192) rfl), Or.inl rfl⟩)⟩
noncomputable abbrev zmd_93 : zMd := (⟨"RaysOfShapes$Span", "putFrom", "(III)V"⟩, prog_10_method_2_code, 4, none, false, 3, 9)
set_option maxRecDepth 100000 in
theorem zmo_93 : zmOK zmd_93 := ⟨zsub_3 (List.mem_of_getElem? (i := 76) rfl), zsub_1 (List.mem_of_getElem? (i := 10) rfl), zdp_35, rfl, zmh_9, plainFor_of_name zpn_9, (fun h => nomatch h), (fun _ => ⟨zsub_3 (List.mem_of_getElem? (i := 74) rfl), Or.inr (zsub_3 (List.mem_of_getElem? (i := 75) rfl))⟩)⟩
noncomputable abbrev zmd_94 : zMd := (⟨"RaysOfShapes$Span", "putTo", "(III)V"⟩, prog_10_method_3_code, 4, none, false, 3, 9)
set_option maxRecDepth 100000 in
theorem zmo_94 : zmOK zmd_94 := ⟨zsub_3 (List.mem_of_getElem? (i := 80) rfl), zsub_1 (List.mem_of_getElem? (i := 10) rfl), zdp_35, rfl, zmh_9, plainFor_of_name zpn_9, (fun h => nomatch h), (fun _ => ⟨zsub_3 (List.mem_of_getElem? (i := 78) rfl), Or.inr (zsub_3 (List.mem_of_getElem? (i := 79) rfl))⟩)⟩
noncomputable abbrev zmd_95 : zMd := (⟨"RaysOfShapes$Span", "lowest", "()LRaysOfShapes$Fraction;"⟩, prog_10_method_4_code, 1, some (.object "RaysOfShapes$Fraction"), false, 0, 9)
set_option maxRecDepth 100000 in
theorem zmo_95 : zmOK zmd_95 := ⟨zsub_3 (List.mem_of_getElem? (i := 172) rfl), zsub_1 (List.mem_of_getElem? (i := 10) rfl), zdp_40, rfl, zmh_9, plainFor_of_name zpn_9, (fun h => nomatch h), (fun _ => ⟨zsub_3 (List.mem_of_getElem? (i := 170) rfl), Or.inr (zsub_3 (List.mem_of_getElem? (i := 171) rfl))⟩)⟩
noncomputable abbrev zmd_96 : zMd := (⟨"RaysOfShapes$Span", "highest", "()LRaysOfShapes$Fraction;"⟩, prog_10_method_5_code, 1, some (.object "RaysOfShapes$Fraction"), false, 0, 9)
set_option maxRecDepth 100000 in
theorem zmo_96 : zmOK zmd_96 := ⟨zsub_3 (List.mem_of_getElem? (i := 160) rfl), zsub_1 (List.mem_of_getElem? (i := 10) rfl), zdp_40, rfl, zmh_9, plainFor_of_name zpn_9, (fun h => nomatch h), (fun _ => ⟨zsub_3 (List.mem_of_getElem? (i := 158) rfl), Or.inr (zsub_3 (List.mem_of_getElem? (i := 159) rfl))⟩)⟩
noncomputable abbrev zmd_97 : zMd := (⟨"RaysOfShapes$Span", "findFor", "(LRaysOfShapes$Table;I)V"⟩, prog_10_method_6_code, 3, none, false, 2, 9)
set_option maxRecDepth 100000 in
theorem zmo_97 : zmOK zmd_97 := ⟨zsub_3 (List.mem_of_getElem? (i := 84) rfl), zsub_1 (List.mem_of_getElem? (i := 10) rfl), zdp_41, rfl, zmh_9, plainFor_of_name zpn_9, (fun h => nomatch h), (fun _ => ⟨zsub_3 (List.mem_of_getElem? (i := 82) rfl), Or.inr (zsub_3 (List.mem_of_getElem? (i := 83) rfl))⟩)⟩
noncomputable abbrev zmd_98 : zMd := (⟨"RaysOfShapes$Span", "find", "(LRaysOfShapes$Table;III)V"⟩, prog_10_method_7_code, 5, none, false, 4, 9)
set_option maxRecDepth 100000 in
theorem zmo_98 : zmOK zmd_98 := ⟨zsub_3 (List.mem_of_getElem? (i := 88) rfl), zsub_1 (List.mem_of_getElem? (i := 10) rfl), zdp_22, rfl, zmh_9, plainFor_of_name zpn_9, (fun h => nomatch h), (fun _ => ⟨zsub_3 (List.mem_of_getElem? (i := 87) rfl), Or.inr (zsub_0 (List.mem_of_getElem? (i := 12) rfl))⟩)⟩
noncomputable abbrev zmd_99 : zMd := (⟨"RaysOfShapes$Span", "ofBall", "(LRaysOfShapes$Table;III)V"⟩, prog_10_method_8_code, 13, none, false, 4, 9)
set_option maxRecDepth 100000 in
theorem zmo_99 : zmOK zmd_99 := ⟨zsub_3 (List.mem_of_getElem? (i := 93) rfl), zsub_1 (List.mem_of_getElem? (i := 10) rfl), zdp_22, rfl, zmh_9, plainFor_of_name zpn_9, (fun h => nomatch h), (fun _ => ⟨zsub_3 (List.mem_of_getElem? (i := 92) rfl), Or.inr (zsub_0 (List.mem_of_getElem? (i := 13) rfl))⟩)⟩
noncomputable abbrev zmd_100 : zMd := (⟨"RaysOfShapes$Span", "ofBox", "(LRaysOfShapes$Table;III)V"⟩, prog_10_method_9_code, 12, none, false, 4, 9)
set_option maxRecDepth 100000 in
theorem zmo_100 : zmOK zmd_100 := ⟨zsub_3 (List.mem_of_getElem? (i := 103) rfl), zsub_1 (List.mem_of_getElem? (i := 10) rfl), zdp_22, rfl, zmh_9, plainFor_of_name zpn_9, (fun h => nomatch h), (fun _ => ⟨zsub_3 (List.mem_of_getElem? (i := 102) rfl), Or.inr (zsub_0 (List.mem_of_getElem? (i := 14) rfl))⟩)⟩
noncomputable abbrev zmd_101 : zMd := (⟨"RaysOfShapes$Span", "ofHalf", "(LRaysOfShapes$Table;III)V"⟩, prog_10_method_10_code, 12, none, false, 4, 9)
set_option maxRecDepth 100000 in
theorem zmo_101 : zmOK zmd_101 := ⟨zsub_3 (List.mem_of_getElem? (i := 108) rfl), zsub_1 (List.mem_of_getElem? (i := 10) rfl), zdp_22, rfl, zmh_9, plainFor_of_name zpn_9, (fun h => nomatch h), (fun _ => ⟨zsub_3 (List.mem_of_getElem? (i := 107) rfl), Or.inr (zsub_0 (List.mem_of_getElem? (i := 15) rfl))⟩)⟩
noncomputable abbrev zmd_102 : zMd := (⟨"RaysOfShapes$Span", "ofPair", "(LRaysOfShapes$Table;III)V"⟩, prog_10_method_11_code, 9, none, false, 4, 9)
set_option maxRecDepth 100000 in
theorem zmo_102 : zmOK zmd_102 := ⟨zsub_3 (List.mem_of_getElem? (i := 112) rfl), zsub_1 (List.mem_of_getElem? (i := 10) rfl), zdp_22, rfl, zmh_9, plainFor_of_name zpn_9, (fun h => nomatch h), (fun _ => ⟨zsub_3 (List.mem_of_getElem? (i := 111) rfl), Or.inr (zsub_0 (List.mem_of_getElem? (i := 16) rfl))⟩)⟩
noncomputable abbrev zmd_103 : zMd := (⟨"RaysOfShapes$Span", "ofChange", "(LRaysOfShapes$Table;III)V"⟩, prog_10_method_12_code, 6, none, false, 4, 9)
set_option maxRecDepth 100000 in
theorem zmo_103 : zmOK zmd_103 := ⟨zsub_3 (List.mem_of_getElem? (i := 123) rfl), zsub_1 (List.mem_of_getElem? (i := 10) rfl), zdp_22, rfl, zmh_9, plainFor_of_name zpn_9, (fun h => nomatch h), (fun _ => ⟨zsub_3 (List.mem_of_getElem? (i := 122) rfl), Or.inr (zsub_0 (List.mem_of_getElem? (i := 17) rfl))⟩)⟩
noncomputable abbrev zmd_104 : zMd := (⟨"RaysOfShapes$Span", "becomeAmounts", "(LRaysOfShapes$Fraction;LRaysOfShapes$Fraction;)V"⟩, prog_10_method_13_code, 3, none, true, 2, 9)
set_option maxRecDepth 100000 in
theorem zmo_104 : zmOK zmd_104 := ⟨zsub_3 (List.mem_of_getElem? (i := 144) rfl), zsub_1 (List.mem_of_getElem? (i := 10) rfl), zdp_42, rfl, zmh_9, plainFor_of_name zpn_9, (fun _ => zsub_3 (List.mem_of_getElem? (i := 143) rfl)), (fun h => nomatch h)⟩
noncomputable abbrev zmd_105 : zMd := (⟨"RaysOfShapes$Span", "move", "(LRaysOfShapes$Table;II)V"⟩, prog_10_method_14_code, 8, none, false, 3, 9)
set_option maxRecDepth 100000 in
theorem zmo_105 : zmOK zmd_105 := ⟨zsub_3 (List.mem_of_getElem? (i := 127) rfl), zsub_1 (List.mem_of_getElem? (i := 10) rfl), zdp_25, rfl, zmh_9, plainFor_of_name zpn_9, (fun h => nomatch h), (fun _ => ⟨zsub_3 (List.mem_of_getElem? (i := 126) rfl), Or.inr (zsub_0 (List.mem_of_getElem? (i := 18) rfl))⟩)⟩
noncomputable abbrev zmd_106 : zMd := (⟨"RaysOfShapes$Span", "repeat", "(II)V"⟩, prog_10_method_15_code, 6, none, false, 2, 9)
set_option maxRecDepth 100000 in
theorem zmo_106 : zmOK zmd_106 := ⟨zsub_3 (List.mem_of_getElem? (i := 132) rfl), zsub_1 (List.mem_of_getElem? (i := 10) rfl), zdp_13, rfl, zmh_9, plainFor_of_name zpn_9, (fun h => nomatch h), (fun _ => ⟨zsub_3 (List.mem_of_getElem? (i := 131) rfl), Or.inr (zsub_0 (List.mem_of_getElem? (i := 19) rfl))⟩)⟩
noncomputable abbrev zmd_107 : zMd := (⟨"RaysOfShapes$Span", "mirror", "(II)V"⟩, prog_10_method_16_code, 5, none, false, 2, 9)
set_option maxRecDepth 100000 in
theorem zmo_107 : zmOK zmd_107 := ⟨zsub_3 (List.mem_of_getElem? (i := 137) rfl), zsub_1 (List.mem_of_getElem? (i := 10) rfl), zdp_13, rfl, zmh_9, plainFor_of_name zpn_9, (fun h => nomatch h), (fun _ => ⟨zsub_3 (List.mem_of_getElem? (i := 136) rfl), Or.inr (zsub_0 (List.mem_of_getElem? (i := 20) rfl))⟩)⟩
noncomputable abbrev zmd_108 : zMd := (⟨"RaysOfShapes$Span", "turn", "(II)V"⟩, prog_10_method_17_code, 4, none, false, 2, 9)
set_option maxRecDepth 100000 in
theorem zmo_108 : zmOK zmd_108 := ⟨zsub_3 (List.mem_of_getElem? (i := 141) rfl), zsub_1 (List.mem_of_getElem? (i := 10) rfl), zdp_13, rfl, zmh_9, plainFor_of_name zpn_9, (fun h => nomatch h), (fun _ => ⟨zsub_3 (List.mem_of_getElem? (i := 140) rfl), Or.inr (zsub_0 (List.mem_of_getElem? (i := 21) rfl))⟩)⟩
noncomputable abbrev zmd_109 : zMd := (⟨"RaysOfShapes$Table", "<init>", "()V"⟩, prog_11_method_1_code, 1, none, false, 0, 10)
set_option maxRecDepth 100000 in
theorem zmo_109 : zmOK zmd_109 := ⟨zsub_1 (List.mem_of_getElem? (i := 33) rfl), zsub_1 (List.mem_of_getElem? (i := 2) rfl), zdp_0, rfl, zmh_10, plainFor_of_name zpn_10, (fun h => nomatch h), (fun _ => ⟨zsub_1 (List.mem_of_getElem? (i := 32) rfl), Or.inl rfl⟩)⟩
noncomputable abbrev zmd_110 : zMd := (⟨"RaysOfShapes$Table", "size", "()I"⟩, prog_11_method_2_code, 1, some .int, false, 0, 10)
set_option maxRecDepth 100000 in
theorem zmo_110 : zmOK zmd_110 := ⟨zsub_2 (List.mem_of_getElem? (i := 155) rfl), zsub_1 (List.mem_of_getElem? (i := 2) rfl), zdp_2, rfl, zmh_10, plainFor_of_name zpn_10, (fun h => nomatch h), (fun _ => ⟨zsub_2 (List.mem_of_getElem? (i := 153) rfl), Or.inr (zsub_2 (List.mem_of_getElem? (i := 154) rfl))⟩)⟩
noncomputable abbrev zmd_111 : zMd := (⟨"RaysOfShapes$Table", "resize", "(I)V"⟩, prog_11_method_3_code, 2, none, false, 1, 10)
set_option maxRecDepth 100000 in
theorem zmo_111 : zmOK zmd_111 := ⟨zsub_4 (List.mem_of_getElem? (i := 167) rfl), zsub_1 (List.mem_of_getElem? (i := 2) rfl), zdp_3, rfl, zmh_10, plainFor_of_name zpn_10, (fun h => nomatch h), (fun _ => ⟨zsub_4 (List.mem_of_getElem? (i := 165) rfl), Or.inr (zsub_4 (List.mem_of_getElem? (i := 166) rfl))⟩)⟩
noncomputable abbrev zmd_112 : zMd := (⟨"RaysOfShapes$Table", "kindOf", "(I)I"⟩, prog_11_method_4_code, 2, some .int, false, 1, 10)
set_option maxRecDepth 100000 in
theorem zmo_112 : zmOK zmd_112 := ⟨zsub_2 (List.mem_of_getElem? (i := 171) rfl), zsub_1 (List.mem_of_getElem? (i := 2) rfl), zdp_4, rfl, zmh_10, plainFor_of_name zpn_10, (fun h => nomatch h), (fun _ => ⟨zsub_2 (List.mem_of_getElem? (i := 169) rfl), Or.inr (zsub_2 (List.mem_of_getElem? (i := 170) rfl))⟩)⟩
noncomputable abbrev zmd_113 : zMd := (⟨"RaysOfShapes$Table", "firstOf", "(I)I"⟩, prog_11_method_5_code, 2, some .int, false, 1, 10)
set_option maxRecDepth 100000 in
theorem zmo_113 : zmOK zmd_113 := ⟨zsub_2 (List.mem_of_getElem? (i := 180) rfl), zsub_1 (List.mem_of_getElem? (i := 2) rfl), zdp_4, rfl, zmh_10, plainFor_of_name zpn_10, (fun h => nomatch h), (fun _ => ⟨zsub_2 (List.mem_of_getElem? (i := 178) rfl), Or.inr (zsub_2 (List.mem_of_getElem? (i := 179) rfl))⟩)⟩
noncomputable abbrev zmd_114 : zMd := (⟨"RaysOfShapes$Table", "secondOf", "(I)I"⟩, prog_11_method_6_code, 2, some .int, false, 1, 10)
set_option maxRecDepth 100000 in
theorem zmo_114 : zmOK zmd_114 := ⟨zsub_2 (List.mem_of_getElem? (i := 184) rfl), zsub_1 (List.mem_of_getElem? (i := 2) rfl), zdp_4, rfl, zmh_10, plainFor_of_name zpn_10, (fun h => nomatch h), (fun _ => ⟨zsub_2 (List.mem_of_getElem? (i := 182) rfl), Or.inr (zsub_2 (List.mem_of_getElem? (i := 183) rfl))⟩)⟩
noncomputable abbrev zmd_115 : zMd := (⟨"RaysOfShapes$Table", "deepOf", "(I)I"⟩, prog_11_method_7_code, 2, some .int, false, 1, 10)
set_option maxRecDepth 100000 in
theorem zmo_115 : zmOK zmd_115 := ⟨zsub_2 (List.mem_of_getElem? (i := 188) rfl), zsub_1 (List.mem_of_getElem? (i := 2) rfl), zdp_4, rfl, zmh_10, plainFor_of_name zpn_10, (fun h => nomatch h), (fun _ => ⟨zsub_2 (List.mem_of_getElem? (i := 186) rfl), Or.inr (zsub_2 (List.mem_of_getElem? (i := 187) rfl))⟩)⟩
noncomputable abbrev zmd_116 : zMd := (⟨"RaysOfShapes$Table", "solidsOf", "(I)I"⟩, prog_11_method_8_code, 2, some .int, false, 1, 10)
set_option maxRecDepth 100000 in
theorem zmo_116 : zmOK zmd_116 := ⟨zsub_4 (List.mem_of_getElem? (i := 131) rfl), zsub_1 (List.mem_of_getElem? (i := 2) rfl), zdp_4, rfl, zmh_10, plainFor_of_name zpn_10, (fun h => nomatch h), (fun _ => ⟨zsub_4 (List.mem_of_getElem? (i := 129) rfl), Or.inr (zsub_4 (List.mem_of_getElem? (i := 130) rfl))⟩)⟩
noncomputable abbrev zmd_117 : zMd := (⟨"RaysOfShapes$Table", "blendsOf", "(I)I"⟩, prog_11_method_9_code, 2, some .int, false, 1, 10)
set_option maxRecDepth 100000 in
theorem zmo_117 : zmOK zmd_117 := ⟨zsub_4 (List.mem_of_getElem? (i := 127) rfl), zsub_1 (List.mem_of_getElem? (i := 2) rfl), zdp_4, rfl, zmh_10, plainFor_of_name zpn_10, (fun h => nomatch h), (fun _ => ⟨zsub_4 (List.mem_of_getElem? (i := 126) rfl), Or.inr (zsub_0 (List.mem_of_getElem? (i := 34) rfl))⟩)⟩
noncomputable abbrev zmd_118 : zMd := (⟨"RaysOfShapes$Table", "numberOf", "(II)I"⟩, prog_11_method_10_code, 3, some .int, false, 2, 10)
set_option maxRecDepth 100000 in
theorem zmo_118 : zmOK zmd_118 := ⟨zsub_2 (List.mem_of_getElem? (i := 231) rfl), zsub_1 (List.mem_of_getElem? (i := 2) rfl), zdp_30, rfl, zmh_10, plainFor_of_name zpn_10, (fun h => nomatch h), (fun _ => ⟨zsub_2 (List.mem_of_getElem? (i := 229) rfl), Or.inr (zsub_2 (List.mem_of_getElem? (i := 230) rfl))⟩)⟩
noncomputable abbrev zmd_119 : zMd := (⟨"RaysOfShapes$Table", "isTooDeep", "(III)Z"⟩, prog_11_method_11_code, 4, some .boolean, false, 3, 10)
set_option maxRecDepth 100000 in
theorem zmo_119 : zmOK zmd_119 := ⟨zsub_4 (List.mem_of_getElem? (i := 145) rfl), zsub_1 (List.mem_of_getElem? (i := 2) rfl), zdp_43, rfl, zmh_10, plainFor_of_name zpn_10, (fun h => nomatch h), (fun _ => ⟨zsub_4 (List.mem_of_getElem? (i := 143) rfl), Or.inr (zsub_4 (List.mem_of_getElem? (i := 144) rfl))⟩)⟩
noncomputable abbrev zmd_120 : zMd := (⟨"RaysOfShapes$Table", "deepOver", "(III)I"⟩, prog_11_method_12_code, 4, some .int, false, 3, 10)
set_option maxRecDepth 100000 in
theorem zmo_120 : zmOK zmd_120 := ⟨zsub_4 (List.mem_of_getElem? (i := 116) rfl), zsub_1 (List.mem_of_getElem? (i := 2) rfl), zdp_44, rfl, zmh_10, plainFor_of_name zpn_10, (fun h => nomatch h), (fun _ => ⟨zsub_4 (List.mem_of_getElem? (i := 115) rfl), Or.inr (zsub_0 (List.mem_of_getElem? (i := 32) rfl))⟩)⟩
noncomputable abbrev zmd_121 : zMd := (⟨"RaysOfShapes$Table", "blendsOver", "(III)I"⟩, prog_11_method_13_code, 4, some .int, false, 3, 10)
set_option maxRecDepth 100000 in
theorem zmo_121 : zmOK zmd_121 := ⟨zsub_4 (List.mem_of_getElem? (i := 123) rfl), zsub_1 (List.mem_of_getElem? (i := 2) rfl), zdp_44, rfl, zmh_10, plainFor_of_name zpn_10, (fun h => nomatch h), (fun _ => ⟨zsub_4 (List.mem_of_getElem? (i := 122) rfl), Or.inr (zsub_0 (List.mem_of_getElem? (i := 33) rfl))⟩)⟩
noncomputable abbrev zmd_122 : zMd := (⟨"RaysOfShapes$Table", "write", "(IIII[I)V"⟩, prog_11_method_14_code, 7, none, false, 5, 10)
set_option maxRecDepth 100000 in
theorem zmo_122 : zmOK zmd_122 := ⟨zsub_4 (List.mem_of_getElem? (i := 112) rfl), zsub_1 (List.mem_of_getElem? (i := 2) rfl), zdp_45, rfl, zmh_10, plainFor_of_name zpn_10, (fun h => nomatch h), (fun _ => ⟨zsub_4 (List.mem_of_getElem? (i := 110) rfl), Or.inr (zsub_4 (List.mem_of_getElem? (i := 111) rfl))⟩)⟩
noncomputable abbrev zmd_123 : zMd := (⟨"RaysOfShapes$Table", "takeFrom", "(LRaysOfShapes$Table;)V"⟩, prog_11_method_15_code, 2, none, false, 1, 10)
set_option maxRecDepth 100000 in
theorem zmo_123 : zmOK zmd_123 := ⟨zsub_6 (List.mem_of_getElem? (i := 26) rfl), zsub_1 (List.mem_of_getElem? (i := 2) rfl), zdp_46, rfl, zmh_10, plainFor_of_name zpn_10, (fun h => nomatch h), (fun _ => ⟨zsub_6 (List.mem_of_getElem? (i := 24) rfl), Or.inr (zsub_6 (List.mem_of_getElem? (i := 25) rfl))⟩)⟩
noncomputable abbrev zmd_124 : zMd := (⟨"RaysOfShapes$Walker", "<init>", "()V"⟩, prog_12_method_1_code, 1, none, false, 0, 11)
set_option maxRecDepth 100000 in
theorem zmo_124 : zmOK zmd_124 := ⟨zsub_1 (List.mem_of_getElem? (i := 227) rfl), zsub_1 (List.mem_of_getElem? (i := 11) rfl), zdp_0, rfl, zmh_11, plainFor_of_name zpn_11, (fun h => nomatch h), (fun _ => ⟨zsub_1 (List.mem_of_getElem? (i := 226) rfl), Or.inl rfl⟩)⟩
noncomputable abbrev zmd_125 : zMd := (⟨"RaysOfShapes$Walker", "stepsTillIn", "()I"⟩, prog_12_method_2_code, 1, some .int, false, 0, 11)
set_option maxRecDepth 100000 in
theorem zmo_125 : zmOK zmd_125 := ⟨zsub_5 (List.mem_of_getElem? (i := 79) rfl), zsub_1 (List.mem_of_getElem? (i := 11) rfl), zdp_2, rfl, zmh_11, plainFor_of_name zpn_11, (fun h => nomatch h), (fun _ => ⟨zsub_5 (List.mem_of_getElem? (i := 77) rfl), Or.inr (zsub_5 (List.mem_of_getElem? (i := 78) rfl))⟩)⟩
noncomputable abbrev zmd_126 : zMd := (⟨"RaysOfShapes$Walker", "placesIn", "()I"⟩, prog_12_method_3_code, 1, some .int, false, 0, 11)
set_option maxRecDepth 100000 in
theorem zmo_126 : zmOK zmd_126 := ⟨zsub_5 (List.mem_of_getElem? (i := 83) rfl), zsub_1 (List.mem_of_getElem? (i := 11) rfl), zdp_2, rfl, zmh_11, plainFor_of_name zpn_11, (fun h => nomatch h), (fun _ => ⟨zsub_5 (List.mem_of_getElem? (i := 81) rfl), Or.inr (zsub_5 (List.mem_of_getElem? (i := 82) rfl))⟩)⟩
noncomputable abbrev zmd_127 : zMd := (⟨"RaysOfShapes$Walker", "timesOver", "()I"⟩, prog_12_method_4_code, 1, some .int, false, 0, 11)
set_option maxRecDepth 100000 in
theorem zmo_127 : zmOK zmd_127 := ⟨zsub_5 (List.mem_of_getElem? (i := 87) rfl), zsub_1 (List.mem_of_getElem? (i := 11) rfl), zdp_2, rfl, zmh_11, plainFor_of_name zpn_11, (fun h => nomatch h), (fun _ => ⟨zsub_5 (List.mem_of_getElem? (i := 85) rfl), Or.inr (zsub_5 (List.mem_of_getElem? (i := 86) rfl))⟩)⟩
noncomputable abbrev zmd_128 : zMd := (⟨"RaysOfShapes$Walker", "parts", "()I"⟩, prog_12_method_5_code, 1, some .int, false, 0, 11)
set_option maxRecDepth 100000 in
theorem zmo_128 : zmOK zmd_128 := ⟨zsub_5 (List.mem_of_getElem? (i := 119) rfl), zsub_1 (List.mem_of_getElem? (i := 11) rfl), zdp_2, rfl, zmh_11, plainFor_of_name zpn_11, (fun h => nomatch h), (fun _ => ⟨zsub_5 (List.mem_of_getElem? (i := 117) rfl), Or.inr (zsub_5 (List.mem_of_getElem? (i := 118) rfl))⟩)⟩
noncomputable abbrev zmd_129 : zMd := (⟨"RaysOfShapes$Walker", "greatest", "()I"⟩, prog_12_method_6_code, 1, some .int, false, 0, 11)
set_option maxRecDepth 100000 in
theorem zmo_129 : zmOK zmd_129 := ⟨zsub_5 (List.mem_of_getElem? (i := 123) rfl), zsub_1 (List.mem_of_getElem? (i := 11) rfl), zdp_2, rfl, zmh_11, plainFor_of_name zpn_11, (fun h => nomatch h), (fun _ => ⟨zsub_5 (List.mem_of_getElem? (i := 121) rfl), Or.inr (zsub_5 (List.mem_of_getElem? (i := 122) rfl))⟩)⟩
noncomputable abbrev zmd_130 : zMd := (⟨"RaysOfShapes$Walker", "leastOfGreatest", "()I"⟩, prog_12_method_7_code, 1, some .int, false, 0, 11)
set_option maxRecDepth 100000 in
theorem zmo_130 : zmOK zmd_130 := ⟨zsub_5 (List.mem_of_getElem? (i := 127) rfl), zsub_1 (List.mem_of_getElem? (i := 11) rfl), zdp_2, rfl, zmh_11, plainFor_of_name zpn_11, (fun h => nomatch h), (fun _ => ⟨zsub_5 (List.mem_of_getElem? (i := 125) rfl), Or.inr (zsub_5 (List.mem_of_getElem? (i := 126) rfl))⟩)⟩
noncomputable abbrev zmd_131 : zMd := (⟨"RaysOfShapes$Walker", "walk", "(LRaysOfShapes$Places;IIII)V"⟩, prog_12_method_8_code, 10, none, false, 5, 11)
set_option maxRecDepth 100000 in
theorem zmo_131 : zmOK zmd_131 := ⟨zsub_5 (List.mem_of_getElem? (i := 71) rfl), zsub_1 (List.mem_of_getElem? (i := 11) rfl), zdp_47, rfl, zmh_11, plainFor_of_name zpn_11, (fun h => nomatch h), (fun _ => ⟨zsub_5 (List.mem_of_getElem? (i := 69) rfl), Or.inr (zsub_5 (List.mem_of_getElem? (i := 70) rfl))⟩)⟩
noncomputable abbrev zmd_132 : zMd := (⟨"RaysOfShapes$Walker", "skinOf", "(LRaysOfShapes$Places;)I"⟩, prog_12_method_9_code, 4, some .int, false, 1, 11)
set_option maxRecDepth 100000 in
theorem zmo_132 : zmOK zmd_132 := ⟨zsub_5 (List.mem_of_getElem? (i := 95) rfl), zsub_1 (List.mem_of_getElem? (i := 11) rfl), zdp_29, rfl, zmh_11, plainFor_of_name zpn_11, (fun h => nomatch h), (fun _ => ⟨zsub_5 (List.mem_of_getElem? (i := 93) rfl), Or.inr (zsub_5 (List.mem_of_getElem? (i := 94) rfl))⟩)⟩
noncomputable abbrev zmd_133 : zMd := (⟨"RaysOfShapes$Walker", "isBare", "(LRaysOfShapes$Places;I)Z"⟩, prog_12_method_10_code, 3, some .boolean, true, 2, 11)
set_option maxRecDepth 100000 in
theorem zmo_133 : zmOK zmd_133 := ⟨zsub_5 (List.mem_of_getElem? (i := 98) rfl), zsub_1 (List.mem_of_getElem? (i := 11) rfl), zdp_48, rfl, zmh_11, plainFor_of_name zpn_11, (fun _ => zsub_5 (List.mem_of_getElem? (i := 97) rfl)), (fun h => nomatch h)⟩
noncomputable abbrev zmd_134 : zMd := (⟨"RaysOfShapes$Walker", "neighbour", "(II)I"⟩, prog_12_method_11_code, 2, some .int, true, 2, 11)
set_option maxRecDepth 100000 in
theorem zmo_134 : zmOK zmd_134 := ⟨zsub_5 (List.mem_of_getElem? (i := 101) rfl), zsub_1 (List.mem_of_getElem? (i := 11) rfl), zdp_30, rfl, zmh_11, plainFor_of_name zpn_11, (fun _ => zsub_5 (List.mem_of_getElem? (i := 100) rfl)), (fun h => nomatch h)⟩
noncomputable abbrev zmd_135 : zMd := (⟨"RaysOfShapes$Walker", "part", "(LRaysOfShapes$Places;)V"⟩, prog_12_method_12_code, 4, none, false, 1, 11)
set_option maxRecDepth 100000 in
theorem zmo_135 : zmOK zmd_135 := ⟨zsub_5 (List.mem_of_getElem? (i := 109) rfl), zsub_1 (List.mem_of_getElem? (i := 11) rfl), zdp_27, rfl, zmh_11, plainFor_of_name zpn_11, (fun h => nomatch h), (fun _ => ⟨zsub_5 (List.mem_of_getElem? (i := 107) rfl), Or.inr (zsub_5 (List.mem_of_getElem? (i := 108) rfl))⟩)⟩
noncomputable abbrev zmd_136 : zMd := (⟨"RaysOfShapes$Walker", "sizeOfPiece", "(LRaysOfShapes$Places;I)I"⟩, prog_12_method_13_code, 7, some .int, false, 2, 11)
set_option maxRecDepth 100000 in
theorem zmo_136 : zmOK zmd_136 := ⟨zsub_5 (List.mem_of_getElem? (i := 114) rfl), zsub_1 (List.mem_of_getElem? (i := 11) rfl), zdp_5, rfl, zmh_11, plainFor_of_name zpn_11, (fun h => nomatch h), (fun _ => ⟨zsub_5 (List.mem_of_getElem? (i := 113) rfl), Or.inr (zsub_0 (List.mem_of_getElem? (i := 41) rfl))⟩)⟩
noncomputable abbrev zmd_137 : zMd := (⟨"RaysOfShapes", "<init>", "()V"⟩, prog_1_method_1_code, 1, none, false, 0, 12)
set_option maxRecDepth 100000 in
theorem zmo_137 : zmOK zmd_137 := ⟨zsub_1 (List.mem_of_getElem? (i := 25) rfl), zsub_1 (List.mem_of_getElem? (i := 1) rfl), zdp_0, rfl, zmh_12, plainFor_of_name zpn_12, (fun h => nomatch h), (fun _ => ⟨zsub_1 (List.mem_of_getElem? (i := 24) rfl), Or.inl rfl⟩)⟩
noncomputable abbrev zmd_138 : zMd := (⟨"RaysOfShapes", "row", "(III)I"⟩, prog_1_method_2_code, 4, some .int, false, 3, 12)
set_option maxRecDepth 100000 in
theorem zmo_138 : zmOK zmd_138 := ⟨zsub_2 (List.mem_of_getElem? (i := 74) rfl), zsub_1 (List.mem_of_getElem? (i := 1) rfl), zdp_44, rfl, zmh_12, plainFor_of_name zpn_12, (fun h => nomatch h), (fun _ => ⟨zsub_2 (List.mem_of_getElem? (i := 72) rfl), Or.inr (zsub_2 (List.mem_of_getElem? (i := 73) rfl))⟩)⟩
noncomputable abbrev zmd_139 : zMd := (⟨"RaysOfShapes", "set", "(IIJ)I"⟩, prog_1_method_3_code, 6, some .int, false, 3, 12)
set_option maxRecDepth 100000 in
theorem zmo_139 : zmOK zmd_139 := ⟨zsub_2 (List.mem_of_getElem? (i := 93) rfl), zsub_1 (List.mem_of_getElem? (i := 1) rfl), zdp_49, rfl, zmh_12, plainFor_of_name zpn_12, (fun h => nomatch h), (fun _ => ⟨zsub_2 (List.mem_of_getElem? (i := 91) rfl), Or.inr (zsub_2 (List.mem_of_getElem? (i := 92) rfl))⟩)⟩
noncomputable abbrev zmd_140 : zMd := (⟨"RaysOfShapes", "copy", "(IIIII)I"⟩, prog_1_method_4_code, 8, some .int, false, 5, 12)
set_option maxRecDepth 100000 in
theorem zmo_140 : zmOK zmd_140 := ⟨zsub_2 (List.mem_of_getElem? (i := 121) rfl), zsub_1 (List.mem_of_getElem? (i := 1) rfl), zdp_50, rfl, zmh_12, plainFor_of_name zpn_12, (fun h => nomatch h), (fun _ => ⟨zsub_2 (List.mem_of_getElem? (i := 119) rfl), Or.inr (zsub_2 (List.mem_of_getElem? (i := 120) rfl))⟩)⟩
noncomputable abbrev zmd_141 : zMd := (⟨"RaysOfShapes", "element", "(II)J"⟩, prog_1_method_5_code, 3, some .long, false, 2, 12)
set_option maxRecDepth 100000 in
theorem zmo_141 : zmOK zmd_141 := ⟨zsub_2 (List.mem_of_getElem? (i := 135) rfl), zsub_1 (List.mem_of_getElem? (i := 1) rfl), zdp_36, rfl, zmh_12, plainFor_of_name zpn_12, (fun h => nomatch h), (fun _ => ⟨zsub_2 (List.mem_of_getElem? (i := 133) rfl), Or.inr (zsub_2 (List.mem_of_getElem? (i := 134) rfl))⟩)⟩
noncomputable abbrev zmd_142 : zMd := (⟨"RaysOfShapes", "holds", "(I)I"⟩, prog_1_method_6_code, 2, some .int, false, 1, 12)
set_option maxRecDepth 100000 in
theorem zmo_142 : zmOK zmd_142 := ⟨zsub_2 (List.mem_of_getElem? (i := 143) rfl), zsub_1 (List.mem_of_getElem? (i := 1) rfl), zdp_4, rfl, zmh_12, plainFor_of_name zpn_12, (fun h => nomatch h), (fun _ => ⟨zsub_2 (List.mem_of_getElem? (i := 141) rfl), Or.inr (zsub_2 (List.mem_of_getElem? (i := 142) rfl))⟩)⟩
noncomputable abbrev zmd_143 : zMd := (⟨"RaysOfShapes", "show", "(II)I"⟩, prog_1_method_7_code, 3, some .int, false, 2, 12)
set_option maxRecDepth 100000 in
theorem zmo_143 : zmOK zmd_143 := ⟨zsub_2 (List.mem_of_getElem? (i := 147) rfl), zsub_1 (List.mem_of_getElem? (i := 1) rfl), zdp_30, rfl, zmh_12, plainFor_of_name zpn_12, (fun h => nomatch h), (fun _ => ⟨zsub_2 (List.mem_of_getElem? (i := 145) rfl), Or.inr (zsub_2 (List.mem_of_getElem? (i := 146) rfl))⟩)⟩
noncomputable abbrev zmd_144 : zMd := (⟨"RaysOfShapes", "says", "(II)I"⟩, prog_1_method_8_code, 7, some .int, false, 2, 12)
set_option maxRecDepth 100000 in
theorem zmo_144 : zmOK zmd_144 := ⟨zsub_2 (List.mem_of_getElem? (i := 163) rfl), zsub_1 (List.mem_of_getElem? (i := 1) rfl), zdp_30, rfl, zmh_12, plainFor_of_name zpn_12, (fun h => nomatch h), (fun _ => ⟨zsub_2 (List.mem_of_getElem? (i := 161) rfl), Or.inr (zsub_2 (List.mem_of_getElem? (i := 162) rfl))⟩)⟩
noncomputable abbrev zmd_145 : zMd := (⟨"RaysOfShapes", "saysRefusal", "(II)I"⟩, prog_1_method_9_code, 5, some .int, false, 2, 12)
set_option maxRecDepth 100000 in
theorem zmo_145 : zmOK zmd_145 := ⟨zsub_2 (List.mem_of_getElem? (i := 167) rfl), zsub_1 (List.mem_of_getElem? (i := 1) rfl), zdp_30, rfl, zmh_12, plainFor_of_name zpn_12, (fun h => nomatch h), (fun _ => ⟨zsub_2 (List.mem_of_getElem? (i := 166) rfl), Or.inr (zsub_0 (List.mem_of_getElem? (i := 4) rfl))⟩)⟩
noncomputable abbrev zmd_146 : zMd := (⟨"RaysOfShapes", "saidOfNumbers", "(II)I"⟩, prog_1_method_10_code, 7, some .int, false, 2, 12)
set_option maxRecDepth 100000 in
theorem zmo_146 : zmOK zmd_146 := ⟨zsub_3 (List.mem_of_getElem? (i := 199) rfl), zsub_1 (List.mem_of_getElem? (i := 1) rfl), zdp_30, rfl, zmh_12, plainFor_of_name zpn_12, (fun h => nomatch h), (fun _ => ⟨zsub_3 (List.mem_of_getElem? (i := 198) rfl), Or.inr (zsub_0 (List.mem_of_getElem? (i := 23) rfl))⟩)⟩
noncomputable abbrev zmd_147 : zMd := (⟨"RaysOfShapes", "feed", "(I)I"⟩, prog_1_method_11_code, 2, some .int, false, 1, 12)
set_option maxRecDepth 100000 in
theorem zmo_147 : zmOK zmd_147 := ⟨zsub_3 (List.mem_of_getElem? (i := 204) rfl), zsub_1 (List.mem_of_getElem? (i := 1) rfl), zdp_4, rfl, zmh_12, plainFor_of_name zpn_12, (fun h => nomatch h), (fun _ => ⟨zsub_3 (List.mem_of_getElem? (i := 202) rfl), Or.inr (zsub_3 (List.mem_of_getElem? (i := 203) rfl))⟩)⟩
noncomputable abbrev zmd_148 : zMd := (⟨"RaysOfShapes", "wipe", "()I"⟩, prog_1_method_12_code, 2, some .int, false, 0, 12)
set_option maxRecDepth 100000 in
theorem zmo_148 : zmOK zmd_148 := ⟨zsub_3 (List.mem_of_getElem? (i := 220) rfl), zsub_1 (List.mem_of_getElem? (i := 1) rfl), zdp_2, rfl, zmh_12, plainFor_of_name zpn_12, (fun h => nomatch h), (fun _ => ⟨zsub_3 (List.mem_of_getElem? (i := 218) rfl), Or.inr (zsub_3 (List.mem_of_getElem? (i := 219) rfl))⟩)⟩
noncomputable abbrev zmd_149 : zMd := (⟨"RaysOfShapes", "shape", "()I"⟩, prog_1_method_13_code, 3, some .int, false, 0, 12)
set_option maxRecDepth 100000 in
theorem zmo_149 : zmOK zmd_149 := ⟨zsub_3 (List.mem_of_getElem? (i := 228) rfl), zsub_1 (List.mem_of_getElem? (i := 1) rfl), zdp_2, rfl, zmh_12, plainFor_of_name zpn_12, (fun h => nomatch h), (fun _ => ⟨zsub_3 (List.mem_of_getElem? (i := 226) rfl), Or.inr (zsub_3 (List.mem_of_getElem? (i := 227) rfl))⟩)⟩
noncomputable abbrev zmd_150 : zMd := (⟨"RaysOfShapes", "ball", "(IIII)I"⟩, prog_1_method_14_code, 5, some .int, false, 4, 12)
set_option maxRecDepth 100000 in
theorem zmo_150 : zmOK zmd_150 := ⟨zsub_4 (List.mem_of_getElem? (i := 172) rfl), zsub_1 (List.mem_of_getElem? (i := 1) rfl), zdp_51, rfl, zmh_12, plainFor_of_name zpn_12, (fun h => nomatch h), (fun _ => ⟨zsub_4 (List.mem_of_getElem? (i := 170) rfl), Or.inr (zsub_4 (List.mem_of_getElem? (i := 171) rfl))⟩)⟩
noncomputable abbrev zmd_151 : zMd := (⟨"RaysOfShapes", "box", "(IIIIII)I"⟩, prog_1_method_15_code, 7, some .int, false, 6, 12)
set_option maxRecDepth 100000 in
theorem zmo_151 : zmOK zmd_151 := ⟨zsub_4 (List.mem_of_getElem? (i := 192) rfl), zsub_1 (List.mem_of_getElem? (i := 1) rfl), zdp_52, rfl, zmh_12, plainFor_of_name zpn_12, (fun h => nomatch h), (fun _ => ⟨zsub_4 (List.mem_of_getElem? (i := 190) rfl), Or.inr (zsub_4 (List.mem_of_getElem? (i := 191) rfl))⟩)⟩
noncomputable abbrev zmd_152 : zMd := (⟨"RaysOfShapes", "half", "(IIII)I"⟩, prog_1_method_16_code, 5, some .int, false, 4, 12)
set_option maxRecDepth 100000 in
theorem zmo_152 : zmOK zmd_152 := ⟨zsub_4 (List.mem_of_getElem? (i := 196) rfl), zsub_1 (List.mem_of_getElem? (i := 1) rfl), zdp_51, rfl, zmh_12, plainFor_of_name zpn_12, (fun h => nomatch h), (fun _ => ⟨zsub_4 (List.mem_of_getElem? (i := 194) rfl), Or.inr (zsub_4 (List.mem_of_getElem? (i := 195) rfl))⟩)⟩
noncomputable abbrev zmd_153 : zMd := (⟨"RaysOfShapes", "pair", "(III)I"⟩, prog_1_method_17_code, 4, some .int, false, 3, 12)
set_option maxRecDepth 100000 in
theorem zmo_153 : zmOK zmd_153 := ⟨zsub_4 (List.mem_of_getElem? (i := 200) rfl), zsub_1 (List.mem_of_getElem? (i := 1) rfl), zdp_44, rfl, zmh_12, plainFor_of_name zpn_12, (fun h => nomatch h), (fun _ => ⟨zsub_4 (List.mem_of_getElem? (i := 198) rfl), Or.inr (zsub_4 (List.mem_of_getElem? (i := 199) rfl))⟩)⟩
noncomputable abbrev zmd_154 : zMd := (⟨"RaysOfShapes", "blend", "(IIII)I"⟩, prog_1_method_18_code, 5, some .int, false, 4, 12)
set_option maxRecDepth 100000 in
theorem zmo_154 : zmOK zmd_154 := ⟨zsub_4 (List.mem_of_getElem? (i := 204) rfl), zsub_1 (List.mem_of_getElem? (i := 1) rfl), zdp_51, rfl, zmh_12, plainFor_of_name zpn_12, (fun h => nomatch h), (fun _ => ⟨zsub_4 (List.mem_of_getElem? (i := 202) rfl), Or.inr (zsub_4 (List.mem_of_getElem? (i := 203) rfl))⟩)⟩
noncomputable abbrev zmd_155 : zMd := (⟨"RaysOfShapes", "shift", "(IIII)I"⟩, prog_1_method_19_code, 5, some .int, false, 4, 12)
set_option maxRecDepth 100000 in
theorem zmo_155 : zmOK zmd_155 := ⟨zsub_4 (List.mem_of_getElem? (i := 208) rfl), zsub_1 (List.mem_of_getElem? (i := 1) rfl), zdp_51, rfl, zmh_12, plainFor_of_name zpn_12, (fun h => nomatch h), (fun _ => ⟨zsub_4 (List.mem_of_getElem? (i := 206) rfl), Or.inr (zsub_4 (List.mem_of_getElem? (i := 207) rfl))⟩)⟩
noncomputable abbrev zmd_156 : zMd := (⟨"RaysOfShapes", "change", "(IIII)I"⟩, prog_1_method_20_code, 5, some .int, false, 4, 12)
set_option maxRecDepth 100000 in
theorem zmo_156 : zmOK zmd_156 := ⟨zsub_4 (List.mem_of_getElem? (i := 212) rfl), zsub_1 (List.mem_of_getElem? (i := 1) rfl), zdp_51, rfl, zmh_12, plainFor_of_name zpn_12, (fun h => nomatch h), (fun _ => ⟨zsub_4 (List.mem_of_getElem? (i := 210) rfl), Or.inr (zsub_4 (List.mem_of_getElem? (i := 211) rfl))⟩)⟩
noncomputable abbrev zmd_157 : zMd := (⟨"RaysOfShapes", "grown", "(IIII)I"⟩, prog_1_method_21_code, 5, some .int, false, 4, 12)
set_option maxRecDepth 100000 in
theorem zmo_157 : zmOK zmd_157 := ⟨zsub_4 (List.mem_of_getElem? (i := 216) rfl), zsub_1 (List.mem_of_getElem? (i := 1) rfl), zdp_51, rfl, zmh_12, plainFor_of_name zpn_12, (fun h => nomatch h), (fun _ => ⟨zsub_4 (List.mem_of_getElem? (i := 214) rfl), Or.inr (zsub_4 (List.mem_of_getElem? (i := 215) rfl))⟩)⟩
noncomputable abbrev zmd_158 : zMd := (⟨"RaysOfShapes", "putNumbers", "(III)V"⟩, prog_1_method_22_code, 4, none, false, 3, 12)
set_option maxRecDepth 100000 in
theorem zmo_158 : zmOK zmd_158 := ⟨zsub_4 (List.mem_of_getElem? (i := 176) rfl), zsub_1 (List.mem_of_getElem? (i := 1) rfl), zdp_35, rfl, zmh_12, plainFor_of_name zpn_12, (fun h => nomatch h), (fun _ => ⟨zsub_4 (List.mem_of_getElem? (i := 175) rfl), Or.inr (zsub_0 (List.mem_of_getElem? (i := 39) rfl))⟩)⟩
noncomputable abbrev zmd_159 : zMd := (⟨"RaysOfShapes", "built", "(III)I"⟩, prog_1_method_23_code, 4, some .int, false, 3, 12)
set_option maxRecDepth 100000 in
theorem zmo_159 : zmOK zmd_159 := ⟨zsub_4 (List.mem_of_getElem? (i := 180) rfl), zsub_1 (List.mem_of_getElem? (i := 1) rfl), zdp_44, rfl, zmh_12, plainFor_of_name zpn_12, (fun h => nomatch h), (fun _ => ⟨zsub_4 (List.mem_of_getElem? (i := 179) rfl), Or.inr (zsub_0 (List.mem_of_getElem? (i := 40) rfl))⟩)⟩
noncomputable abbrev zmd_160 : zMd := (⟨"RaysOfShapes", "added", "(I)I"⟩, prog_1_method_24_code, 2, some .int, false, 1, 12)
set_option maxRecDepth 100000 in
theorem zmo_160 : zmOK zmd_160 := ⟨zsub_4 (List.mem_of_getElem? (i := 158) rfl), zsub_1 (List.mem_of_getElem? (i := 1) rfl), zdp_4, rfl, zmh_12, plainFor_of_name zpn_12, (fun h => nomatch h), (fun _ => ⟨zsub_4 (List.mem_of_getElem? (i := 157) rfl), Or.inr (zsub_0 (List.mem_of_getElem? (i := 38) rfl))⟩)⟩
noncomputable abbrev zmd_161 : zMd := (⟨"RaysOfShapes", "drop", "()I"⟩, prog_1_method_25_code, 1, some .int, false, 0, 12)
set_option maxRecDepth 100000 in
theorem zmo_161 : zmOK zmd_161 := ⟨zsub_4 (List.mem_of_getElem? (i := 220) rfl), zsub_1 (List.mem_of_getElem? (i := 1) rfl), zdp_2, rfl, zmh_12, plainFor_of_name zpn_12, (fun h => nomatch h), (fun _ => ⟨zsub_4 (List.mem_of_getElem? (i := 218) rfl), Or.inr (zsub_4 (List.mem_of_getElem? (i := 219) rfl))⟩)⟩
noncomputable abbrev zmd_162 : zMd := (⟨"RaysOfShapes", "shapeOf", "(II)I"⟩, prog_1_method_26_code, 3, some .int, false, 2, 12)
set_option maxRecDepth 100000 in
theorem zmo_162 : zmOK zmd_162 := ⟨zsub_4 (List.mem_of_getElem? (i := 229) rfl), zsub_1 (List.mem_of_getElem? (i := 1) rfl), zdp_30, rfl, zmh_12, plainFor_of_name zpn_12, (fun h => nomatch h), (fun _ => ⟨zsub_4 (List.mem_of_getElem? (i := 227) rfl), Or.inr (zsub_4 (List.mem_of_getElem? (i := 228) rfl))⟩)⟩
noncomputable abbrev zmd_163 : zMd := (⟨"RaysOfShapes", "worth", "(IIIII)J"⟩, prog_1_method_27_code, 7, some .long, false, 5, 12)
set_option maxRecDepth 100000 in
theorem zmo_163 : zmOK zmd_163 := ⟨zsub_4 (List.mem_of_getElem? (i := 234) rfl), zsub_1 (List.mem_of_getElem? (i := 1) rfl), zdp_53, rfl, zmh_12, plainFor_of_name zpn_12, (fun h => nomatch h), (fun _ => ⟨zsub_4 (List.mem_of_getElem? (i := 232) rfl), Or.inr (zsub_4 (List.mem_of_getElem? (i := 233) rfl))⟩)⟩
noncomputable abbrev zmd_164 : zMd := (⟨"RaysOfShapes", "bounds", "(IIII)J"⟩, prog_1_method_28_code, 6, some .long, false, 4, 12)
set_option maxRecDepth 100000 in
theorem zmo_164 : zmOK zmd_164 := ⟨zsub_5 (List.mem_of_getElem? (i := 11) rfl), zsub_1 (List.mem_of_getElem? (i := 1) rfl), zdp_54, rfl, zmh_12, plainFor_of_name zpn_12, (fun h => nomatch h), (fun _ => ⟨zsub_5 (List.mem_of_getElem? (i := 9) rfl), Or.inr (zsub_5 (List.mem_of_getElem? (i := 10) rfl))⟩)⟩
noncomputable abbrev zmd_165 : zMd := (⟨"RaysOfShapes", "in", "(II)I"⟩, prog_1_method_29_code, 3, some .int, false, 2, 12)
set_option maxRecDepth 100000 in
theorem zmo_165 : zmOK zmd_165 := ⟨zsub_5 (List.mem_of_getElem? (i := 25) rfl), zsub_1 (List.mem_of_getElem? (i := 1) rfl), zdp_30, rfl, zmh_12, plainFor_of_name zpn_12, (fun h => nomatch h), (fun _ => ⟨zsub_5 (List.mem_of_getElem? (i := 23) rfl), Or.inr (zsub_5 (List.mem_of_getElem? (i := 24) rfl))⟩)⟩
noncomputable abbrev zmd_166 : zMd := (⟨"RaysOfShapes", "count", "(II)I"⟩, prog_1_method_30_code, 3, some .int, false, 2, 12)
set_option maxRecDepth 100000 in
theorem zmo_166 : zmOK zmd_166 := ⟨zsub_5 (List.mem_of_getElem? (i := 33) rfl), zsub_1 (List.mem_of_getElem? (i := 1) rfl), zdp_30, rfl, zmh_12, plainFor_of_name zpn_12, (fun h => nomatch h), (fun _ => ⟨zsub_5 (List.mem_of_getElem? (i := 31) rfl), Or.inr (zsub_5 (List.mem_of_getElem? (i := 32) rfl))⟩)⟩
noncomputable abbrev zmd_167 : zMd := (⟨"RaysOfShapes", "placeOf", "(II)I"⟩, prog_1_method_31_code, 4, some .int, false, 2, 12)
set_option maxRecDepth 100000 in
theorem zmo_167 : zmOK zmd_167 := ⟨zsub_5 (List.mem_of_getElem? (i := 42) rfl), zsub_1 (List.mem_of_getElem? (i := 1) rfl), zdp_30, rfl, zmh_12, plainFor_of_name zpn_12, (fun h => nomatch h), (fun _ => ⟨zsub_5 (List.mem_of_getElem? (i := 40) rfl), Or.inr (zsub_5 (List.mem_of_getElem? (i := 41) rfl))⟩)⟩
noncomputable abbrev zmd_168 : zMd := (⟨"RaysOfShapes", "slice", "(III)I"⟩, prog_1_method_32_code, 4, some .int, false, 3, 12)
set_option maxRecDepth 100000 in
theorem zmo_168 : zmOK zmd_168 := ⟨zsub_5 (List.mem_of_getElem? (i := 51) rfl), zsub_1 (List.mem_of_getElem? (i := 1) rfl), zdp_44, rfl, zmh_12, plainFor_of_name zpn_12, (fun h => nomatch h), (fun _ => ⟨zsub_5 (List.mem_of_getElem? (i := 49) rfl), Or.inr (zsub_5 (List.mem_of_getElem? (i := 50) rfl))⟩)⟩
noncomputable abbrev zmd_169 : zMd := (⟨"RaysOfShapes", "reach", "(III)I"⟩, prog_1_method_33_code, 7, some .int, false, 3, 12)
set_option maxRecDepth 100000 in
theorem zmo_169 : zmOK zmd_169 := ⟨zsub_5 (List.mem_of_getElem? (i := 60) rfl), zsub_1 (List.mem_of_getElem? (i := 1) rfl), zdp_44, rfl, zmh_12, plainFor_of_name zpn_12, (fun h => nomatch h), (fun _ => ⟨zsub_5 (List.mem_of_getElem? (i := 58) rfl), Or.inr (zsub_5 (List.mem_of_getElem? (i := 59) rfl))⟩)⟩
noncomputable abbrev zmd_170 : zMd := (⟨"RaysOfShapes", "ray", "(IIIIII)I"⟩, prog_1_method_34_code, 7, some .int, false, 6, 12)
set_option maxRecDepth 100000 in
theorem zmo_170 : zmOK zmd_170 := ⟨zsub_5 (List.mem_of_getElem? (i := 64) rfl), zsub_1 (List.mem_of_getElem? (i := 1) rfl), zdp_52, rfl, zmh_12, plainFor_of_name zpn_12, (fun h => nomatch h), (fun _ => ⟨zsub_5 (List.mem_of_getElem? (i := 62) rfl), Or.inr (zsub_5 (List.mem_of_getElem? (i := 63) rfl))⟩)⟩
noncomputable abbrev zmd_171 : zMd := (⟨"RaysOfShapes", "skin", "(I)I"⟩, prog_1_method_35_code, 2, some .int, false, 1, 12)
set_option maxRecDepth 100000 in
theorem zmo_171 : zmOK zmd_171 := ⟨zsub_5 (List.mem_of_getElem? (i := 91) rfl), zsub_1 (List.mem_of_getElem? (i := 1) rfl), zdp_4, rfl, zmh_12, plainFor_of_name zpn_12, (fun h => nomatch h), (fun _ => ⟨zsub_5 (List.mem_of_getElem? (i := 89) rfl), Or.inr (zsub_5 (List.mem_of_getElem? (i := 90) rfl))⟩)⟩
noncomputable abbrev zmd_172 : zMd := (⟨"RaysOfShapes", "pieces", "(II)I"⟩, prog_1_method_36_code, 3, some .int, false, 2, 12)
set_option maxRecDepth 100000 in
theorem zmo_172 : zmOK zmd_172 := ⟨zsub_5 (List.mem_of_getElem? (i := 105) rfl), zsub_1 (List.mem_of_getElem? (i := 1) rfl), zdp_30, rfl, zmh_12, plainFor_of_name zpn_12, (fun h => nomatch h), (fun _ => ⟨zsub_5 (List.mem_of_getElem? (i := 103) rfl), Or.inr (zsub_5 (List.mem_of_getElem? (i := 104) rfl))⟩)⟩
noncomputable abbrev zmd_173 : zMd := (⟨"RaysOfShapes", "even", "(II)I"⟩, prog_1_method_37_code, 6, some .int, false, 2, 12)
set_option maxRecDepth 100000 in
theorem zmo_173 : zmOK zmd_173 := ⟨zsub_5 (List.mem_of_getElem? (i := 131) rfl), zsub_1 (List.mem_of_getElem? (i := 1) rfl), zdp_30, rfl, zmh_12, plainFor_of_name zpn_12, (fun h => nomatch h), (fun _ => ⟨zsub_5 (List.mem_of_getElem? (i := 129) rfl), Or.inr (zsub_5 (List.mem_of_getElem? (i := 130) rfl))⟩)⟩
noncomputable abbrev zmd_174 : zMd := (⟨"RaysOfShapes", "both", "(II)I"⟩, prog_1_method_38_code, 3, some .int, false, 2, 12)
set_option maxRecDepth 100000 in
theorem zmo_174 : zmOK zmd_174 := ⟨zsub_5 (List.mem_of_getElem? (i := 136) rfl), zsub_1 (List.mem_of_getElem? (i := 1) rfl), zdp_30, rfl, zmh_12, plainFor_of_name zpn_12, (fun h => nomatch h), (fun _ => ⟨zsub_5 (List.mem_of_getElem? (i := 134) rfl), Or.inr (zsub_5 (List.mem_of_getElem? (i := 135) rfl))⟩)⟩
noncomputable abbrev zmd_175 : zMd := (⟨"RaysOfShapes", "differ", "(II)I"⟩, prog_1_method_39_code, 6, some .int, false, 2, 12)
set_option maxRecDepth 100000 in
theorem zmo_175 : zmOK zmd_175 := ⟨zsub_5 (List.mem_of_getElem? (i := 140) rfl), zsub_1 (List.mem_of_getElem? (i := 1) rfl), zdp_30, rfl, zmh_12, plainFor_of_name zpn_12, (fun h => nomatch h), (fun _ => ⟨zsub_5 (List.mem_of_getElem? (i := 138) rfl), Or.inr (zsub_5 (List.mem_of_getElem? (i := 139) rfl))⟩)⟩
noncomputable abbrev zmd_176 : zMd := (⟨"RaysOfShapes", "apart", "(III)I"⟩, prog_1_method_40_code, 7, some .int, false, 3, 12)
set_option maxRecDepth 100000 in
theorem zmo_176 : zmOK zmd_176 := ⟨zsub_5 (List.mem_of_getElem? (i := 144) rfl), zsub_1 (List.mem_of_getElem? (i := 1) rfl), zdp_44, rfl, zmh_12, plainFor_of_name zpn_12, (fun h => nomatch h), (fun _ => ⟨zsub_5 (List.mem_of_getElem? (i := 142) rfl), Or.inr (zsub_5 (List.mem_of_getElem? (i := 143) rfl))⟩)⟩
noncomputable abbrev zmd_177 : zMd := (⟨"RaysOfShapes", "meets", "(LRaysOfShapes$Places;LRaysOfShapes$Places;II)Z"⟩, prog_1_method_41_code, 5, some .boolean, true, 4, 12)
set_option maxRecDepth 100000 in
theorem zmo_177 : zmOK zmd_177 := ⟨zsub_5 (List.mem_of_getElem? (i := 147) rfl), zsub_1 (List.mem_of_getElem? (i := 1) rfl), zdp_55, rfl, zmh_12, plainFor_of_name zpn_12, (fun _ => zsub_5 (List.mem_of_getElem? (i := 146) rfl)), (fun h => nomatch h)⟩
noncomputable abbrev zmd_178 : zMd := (⟨"RaysOfShapes", "enough", "(IIII)I"⟩, prog_1_method_42_code, 6, some .int, false, 4, 12)
set_option maxRecDepth 100000 in
theorem zmo_178 : zmOK zmd_178 := ⟨zsub_5 (List.mem_of_getElem? (i := 151) rfl), zsub_1 (List.mem_of_getElem? (i := 1) rfl), zdp_51, rfl, zmh_12, plainFor_of_name zpn_12, (fun h => nomatch h), (fun _ => ⟨zsub_5 (List.mem_of_getElem? (i := 149) rfl), Or.inr (zsub_5 (List.mem_of_getElem? (i := 150) rfl))⟩)⟩
noncomputable abbrev zmd_179 : zMd := (⟨"RaysOfShapes", "countBlends", "(III)V"⟩, prog_1_method_43_code, 13, none, false, 3, 12)
set_option maxRecDepth 100000 in
theorem zmo_179 : zmOK zmd_179 := ⟨zsub_5 (List.mem_of_getElem? (i := 155) rfl), zsub_1 (List.mem_of_getElem? (i := 1) rfl), zdp_35, rfl, zmh_12, plainFor_of_name zpn_12, (fun h => nomatch h), (fun _ => ⟨zsub_5 (List.mem_of_getElem? (i := 154) rfl), Or.inr (zsub_0 (List.mem_of_getElem? (i := 42) rfl))⟩)⟩
noncomputable abbrev zmd_180 : zMd := (⟨"RaysOfShapes", "kinds", "(IIII)I"⟩, prog_1_method_44_code, 8, some .int, false, 4, 12)
set_option maxRecDepth 100000 in
theorem zmo_180 : zmOK zmd_180 := ⟨zsub_5 (List.mem_of_getElem? (i := 163) rfl), zsub_1 (List.mem_of_getElem? (i := 1) rfl), zdp_51, rfl, zmh_12, plainFor_of_name zpn_12, (fun h => nomatch h), (fun _ => ⟨zsub_5 (List.mem_of_getElem? (i := 161) rfl), Or.inr (zsub_5 (List.mem_of_getElem? (i := 162) rfl))⟩)⟩
noncomputable abbrev zmd_181 : zMd := (⟨"RaysOfShapes", "isSoOfPair", "(IIIII)Z"⟩, prog_1_method_45_code, 8, some .boolean, false, 5, 12)
set_option maxRecDepth 100000 in
theorem zmo_181 : zmOK zmd_181 := ⟨zsub_5 (List.mem_of_getElem? (i := 172) rfl), zsub_1 (List.mem_of_getElem? (i := 1) rfl), zdp_56, rfl, zmh_12, plainFor_of_name zpn_12, (fun h => nomatch h), (fun _ => ⟨zsub_5 (List.mem_of_getElem? (i := 171) rfl), Or.inr (zsub_0 (List.mem_of_getElem? (i := 45) rfl))⟩)⟩
noncomputable abbrev zmd_182 : zMd := (⟨"RaysOfShapes", "isInPair", "(IIII)Z"⟩, prog_1_method_46_code, 7, some .boolean, false, 4, 12)
set_option maxRecDepth 100000 in
theorem zmo_182 : zmOK zmd_182 := ⟨zsub_5 (List.mem_of_getElem? (i := 176) rfl), zsub_1 (List.mem_of_getElem? (i := 1) rfl), zdp_57, rfl, zmh_12, plainFor_of_name zpn_12, (fun h => nomatch h), (fun _ => ⟨zsub_5 (List.mem_of_getElem? (i := 175) rfl), Or.inr (zsub_0 (List.mem_of_getElem? (i := 46) rfl))⟩)⟩
noncomputable abbrev zmd_183 : zMd := (⟨"RaysOfShapes", "judge", "(III)I"⟩, prog_1_method_47_code, 7, some .int, false, 3, 12)
set_option maxRecDepth 100000 in
theorem zmo_183 : zmOK zmd_183 := ⟨zsub_5 (List.mem_of_getElem? (i := 182) rfl), zsub_1 (List.mem_of_getElem? (i := 1) rfl), zdp_44, rfl, zmh_12, plainFor_of_name zpn_12, (fun h => nomatch h), (fun _ => ⟨zsub_5 (List.mem_of_getElem? (i := 180) rfl), Or.inr (zsub_5 (List.mem_of_getElem? (i := 181) rfl))⟩)⟩
noncomputable abbrev zmd_184 : zMd := (⟨"RaysOfShapes", "carve", "(II)I"⟩, prog_1_method_48_code, 3, some .int, false, 2, 12)
set_option maxRecDepth 100000 in
theorem zmo_184 : zmOK zmd_184 := ⟨zsub_5 (List.mem_of_getElem? (i := 186) rfl), zsub_1 (List.mem_of_getElem? (i := 1) rfl), zdp_30, rfl, zmh_12, plainFor_of_name zpn_12, (fun h => nomatch h), (fun _ => ⟨zsub_5 (List.mem_of_getElem? (i := 184) rfl), Or.inr (zsub_5 (List.mem_of_getElem? (i := 185) rfl))⟩)⟩
noncomputable abbrev zmd_185 : zMd := (⟨"RaysOfShapes", "undo", "()I"⟩, prog_1_method_49_code, 1, some .int, false, 0, 12)
set_option maxRecDepth 100000 in
theorem zmo_185 : zmOK zmd_185 := ⟨zsub_5 (List.mem_of_getElem? (i := 206) rfl), zsub_1 (List.mem_of_getElem? (i := 1) rfl), zdp_2, rfl, zmh_12, plainFor_of_name zpn_12, (fun h => nomatch h), (fun _ => ⟨zsub_5 (List.mem_of_getElem? (i := 204) rfl), Or.inr (zsub_5 (List.mem_of_getElem? (i := 205) rfl))⟩)⟩
noncomputable abbrev zmd_186 : zMd := (⟨"RaysOfShapes", "block", "(I)I"⟩, prog_1_method_50_code, 2, some .int, false, 1, 12)
set_option maxRecDepth 100000 in
theorem zmo_186 : zmOK zmd_186 := ⟨zsub_5 (List.mem_of_getElem? (i := 218) rfl), zsub_1 (List.mem_of_getElem? (i := 1) rfl), zdp_4, rfl, zmh_12, plainFor_of_name zpn_12, (fun h => nomatch h), (fun _ => ⟨zsub_5 (List.mem_of_getElem? (i := 216) rfl), Or.inr (zsub_5 (List.mem_of_getElem? (i := 217) rfl))⟩)⟩
noncomputable abbrev zmd_187 : zMd := (⟨"RaysOfShapes", "has", "(I)I"⟩, prog_1_method_51_code, 2, some .int, false, 1, 12)
set_option maxRecDepth 100000 in
theorem zmo_187 : zmOK zmd_187 := ⟨zsub_5 (List.mem_of_getElem? (i := 226) rfl), zsub_1 (List.mem_of_getElem? (i := 1) rfl), zdp_4, rfl, zmh_12, plainFor_of_name zpn_12, (fun h => nomatch h), (fun _ => ⟨zsub_5 (List.mem_of_getElem? (i := 224) rfl), Or.inr (zsub_5 (List.mem_of_getElem? (i := 225) rfl))⟩)⟩
noncomputable abbrev zmd_188 : zMd := (⟨"RaysOfShapes", "off", "(I)I"⟩, prog_1_method_52_code, 2, some .int, false, 1, 12)
set_option maxRecDepth 100000 in
theorem zmo_188 : zmOK zmd_188 := ⟨zsub_5 (List.mem_of_getElem? (i := 230) rfl), zsub_1 (List.mem_of_getElem? (i := 1) rfl), zdp_4, rfl, zmh_12, plainFor_of_name zpn_12, (fun h => nomatch h), (fun _ => ⟨zsub_5 (List.mem_of_getElem? (i := 228) rfl), Or.inr (zsub_5 (List.mem_of_getElem? (i := 229) rfl))⟩)⟩
noncomputable abbrev zmd_189 : zMd := (⟨"RaysOfShapes", "days", "(I)I"⟩, prog_1_method_53_code, 7, some .int, false, 1, 12)
set_option maxRecDepth 100000 in
theorem zmo_189 : zmOK zmd_189 := ⟨zsub_5 (List.mem_of_getElem? (i := 234) rfl), zsub_1 (List.mem_of_getElem? (i := 1) rfl), zdp_4, rfl, zmh_12, plainFor_of_name zpn_12, (fun h => nomatch h), (fun _ => ⟨zsub_5 (List.mem_of_getElem? (i := 232) rfl), Or.inr (zsub_5 (List.mem_of_getElem? (i := 233) rfl))⟩)⟩
noncomputable abbrev zmd_190 : zMd := (⟨"RaysOfShapes", "seed", "(I)I"⟩, prog_1_method_54_code, 3, some .int, false, 1, 12)
set_option maxRecDepth 100000 in
theorem zmo_190 : zmOK zmd_190 := ⟨zsub_6 (List.mem_of_getElem? (i := 10) rfl), zsub_1 (List.mem_of_getElem? (i := 1) rfl), zdp_4, rfl, zmh_12, plainFor_of_name zpn_12, (fun h => nomatch h), (fun _ => ⟨zsub_6 (List.mem_of_getElem? (i := 8) rfl), Or.inr (zsub_6 (List.mem_of_getElem? (i := 9) rfl))⟩)⟩
noncomputable abbrev zmd_191 : zMd := (⟨"RaysOfShapes", "image", "()I"⟩, prog_1_method_55_code, 1, some .int, false, 0, 12)
set_option maxRecDepth 100000 in
theorem zmo_191 : zmOK zmd_191 := ⟨zsub_6 (List.mem_of_getElem? (i := 22) rfl), zsub_1 (List.mem_of_getElem? (i := 1) rfl), zdp_2, rfl, zmh_12, plainFor_of_name zpn_12, (fun h => nomatch h), (fun _ => ⟨zsub_6 (List.mem_of_getElem? (i := 20) rfl), Or.inr (zsub_6 (List.mem_of_getElem? (i := 21) rfl))⟩)⟩
noncomputable abbrev zmd_192 : zMd := (⟨"RaysOfShapes", "back", "()I"⟩, prog_1_method_56_code, 1, some .int, false, 0, 12)
set_option maxRecDepth 100000 in
theorem zmo_192 : zmOK zmd_192 := ⟨zsub_6 (List.mem_of_getElem? (i := 39) rfl), zsub_1 (List.mem_of_getElem? (i := 1) rfl), zdp_2, rfl, zmh_12, plainFor_of_name zpn_12, (fun h => nomatch h), (fun _ => ⟨zsub_6 (List.mem_of_getElem? (i := 37) rfl), Or.inr (zsub_6 (List.mem_of_getElem? (i := 38) rfl))⟩)⟩
noncomputable abbrev zmd_193 : zMd := (⟨"RaysOfShapes", "status", "(I)I"⟩, prog_1_method_57_code, 2, some .int, false, 1, 12)
set_option maxRecDepth 100000 in
theorem zmo_193 : zmOK zmd_193 := ⟨zsub_6 (List.mem_of_getElem? (i := 43) rfl), zsub_1 (List.mem_of_getElem? (i := 1) rfl), zdp_4, rfl, zmh_12, plainFor_of_name zpn_12, (fun h => nomatch h), (fun _ => ⟨zsub_6 (List.mem_of_getElem? (i := 41) rfl), Or.inr (zsub_6 (List.mem_of_getElem? (i := 42) rfl))⟩)⟩
noncomputable abbrev zmd_194 : zMd := (⟨"RaysOfShapes", "refused", "(I)I"⟩, prog_1_method_58_code, 3, some .int, false, 1, 12)
set_option maxRecDepth 100000 in
theorem zmo_194 : zmOK zmd_194 := ⟨zsub_2 (List.mem_of_getElem? (i := 84) rfl), zsub_1 (List.mem_of_getElem? (i := 1) rfl), zdp_4, rfl, zmh_12, plainFor_of_name zpn_12, (fun h => nomatch h), (fun _ => ⟨zsub_2 (List.mem_of_getElem? (i := 83) rfl), Or.inr (zsub_0 (List.mem_of_getElem? (i := 0) rfl))⟩)⟩
noncomputable abbrev zmd_195 : zMd := (⟨"RaysOfShapes", "rowRefusal", "(I)I"⟩, prog_1_method_59_code, 3, some .int, false, 1, 12)
set_option maxRecDepth 100000 in
theorem zmo_195 : zmOK zmd_195 := ⟨zsub_2 (List.mem_of_getElem? (i := 97) rfl), zsub_1 (List.mem_of_getElem? (i := 1) rfl), zdp_4, rfl, zmh_12, plainFor_of_name zpn_12, (fun h => nomatch h), (fun _ => ⟨zsub_2 (List.mem_of_getElem? (i := 96) rfl), Or.inr (zsub_0 (List.mem_of_getElem? (i := 1) rfl))⟩)⟩
noncomputable abbrev zmd_196 : zMd := (⟨"RaysOfShapes", "toldRefusal", "(II)I"⟩, prog_1_method_60_code, 9, some .int, false, 2, 12)
set_option maxRecDepth 100000 in
theorem zmo_196 : zmOK zmd_196 := ⟨zsub_5 (List.mem_of_getElem? (i := 167) rfl), zsub_1 (List.mem_of_getElem? (i := 1) rfl), zdp_30, rfl, zmh_12, plainFor_of_name zpn_12, (fun h => nomatch h), (fun _ => ⟨zsub_5 (List.mem_of_getElem? (i := 166) rfl), Or.inr (zsub_0 (List.mem_of_getElem? (i := 44) rfl))⟩)⟩
noncomputable abbrev zmd_197 : zMd := (⟨"RaysOfShapes", "isShape", "(I)Z"⟩, prog_1_method_61_code, 2, some .boolean, false, 1, 12)
set_option maxRecDepth 100000 in
theorem zmo_197 : zmOK zmd_197 := ⟨zsub_2 (List.mem_of_getElem? (i := 151) rfl), zsub_1 (List.mem_of_getElem? (i := 1) rfl), zdp_16, rfl, zmh_12, plainFor_of_name zpn_12, (fun h => nomatch h), (fun _ => ⟨zsub_2 (List.mem_of_getElem? (i := 150) rfl), Or.inr (zsub_0 (List.mem_of_getElem? (i := 3) rfl))⟩)⟩
noncomputable abbrev zmd_198 : zMd := (⟨"RaysOfShapes", "placesOf", "(I)LRaysOfShapes$Places;"⟩, prog_1_method_62_code, 2, some (.object "RaysOfShapes$Places"), false, 1, 12)
set_option maxRecDepth 100000 in
theorem zmo_198 : zmOK zmd_198 := ⟨zsub_2 (List.mem_of_getElem? (i := 192) rfl), zsub_1 (List.mem_of_getElem? (i := 1) rfl), zdp_58, rfl, zmh_12, plainFor_of_name zpn_12, (fun h => nomatch h), (fun _ => ⟨zsub_2 (List.mem_of_getElem? (i := 191) rfl), Or.inr (zsub_0 (List.mem_of_getElem? (i := 5) rfl))⟩)⟩
noncomputable abbrev zmd_199 : zMd := (⟨"RaysOfShapes", "worthIn", "(II)LRaysOfShapes$Fraction;"⟩, prog_1_method_63_code, 3, some (.object "RaysOfShapes$Fraction"), false, 2, 12)
set_option maxRecDepth 100000 in
theorem zmo_199 : zmOK zmd_199 := ⟨zsub_5 (List.mem_of_getElem? (i := 159) rfl), zsub_1 (List.mem_of_getElem? (i := 1) rfl), zdp_59, rfl, zmh_12, plainFor_of_name zpn_12, (fun h => nomatch h), (fun _ => ⟨zsub_5 (List.mem_of_getElem? (i := 158) rfl), Or.inr (zsub_0 (List.mem_of_getElem? (i := 43) rfl))⟩)⟩
noncomputable abbrev zmd_200 : zMd := (⟨"RaysOfShapes", "isBetween", "(III)Z"⟩, prog_1_method_64_code, 3, some .boolean, true, 3, 12)
set_option maxRecDepth 100000 in
theorem zmo_200 : zmOK zmd_200 := ⟨zsub_2 (List.mem_of_getElem? (i := 80) rfl), zsub_1 (List.mem_of_getElem? (i := 1) rfl), zdp_43, rfl, zmh_12, plainFor_of_name zpn_12, (fun _ => zsub_2 (List.mem_of_getElem? (i := 79) rfl)), (fun h => nomatch h)⟩
noncomputable abbrev zmd_201 : zMd := (⟨"RaysOfShapes", "isShelf", "(I)Z"⟩, prog_1_method_65_code, 1, some .boolean, true, 1, 12)
set_option maxRecDepth 100000 in
theorem zmo_201 : zmOK zmd_201 := ⟨zsub_2 (List.mem_of_getElem? (i := 77) rfl), zsub_1 (List.mem_of_getElem? (i := 1) rfl), zdp_16, rfl, zmh_12, plainFor_of_name zpn_12, (fun _ => zsub_2 (List.mem_of_getElem? (i := 76) rfl)), (fun h => nomatch h)⟩
noncomputable abbrev zmd_202 : zMd := (⟨"RaysOfShapes", "isPlace", "(I)Z"⟩, prog_1_method_66_code, 1, some .boolean, true, 1, 12)
set_option maxRecDepth 100000 in
theorem zmo_202 : zmOK zmd_202 := ⟨zsub_3 (List.mem_of_getElem? (i := 72) rfl), zsub_1 (List.mem_of_getElem? (i := 1) rfl), zdp_16, rfl, zmh_12, plainFor_of_name zpn_12, (fun _ => zsub_3 (List.mem_of_getElem? (i := 71) rfl)), (fun h => nomatch h)⟩
noncomputable abbrev zmd_203 : zMd := (⟨"RaysOfShapes", "isAxis", "(I)Z"⟩, prog_1_method_67_code, 1, some .boolean, true, 1, 12)
set_option maxRecDepth 100000 in
theorem zmo_203 : zmOK zmd_203 := ⟨zsub_3 (List.mem_of_getElem? (i := 53) rfl), zsub_1 (List.mem_of_getElem? (i := 1) rfl), zdp_16, rfl, zmh_12, plainFor_of_name zpn_12, (fun _ => zsub_3 (List.mem_of_getElem? (i := 52) rfl)), (fun h => nomatch h)⟩
noncomputable abbrev zmd_204 : zMd := (⟨"RaysOfShapes", "isNear", "(I)Z"⟩, prog_1_method_68_code, 1, some .boolean, true, 1, 12)
set_option maxRecDepth 100000 in
theorem zmo_204 : zmOK zmd_204 := ⟨zsub_4 (List.mem_of_getElem? (i := 237) rfl), zsub_1 (List.mem_of_getElem? (i := 1) rfl), zdp_16, rfl, zmh_12, plainFor_of_name zpn_12, (fun _ => zsub_4 (List.mem_of_getElem? (i := 236) rfl)), (fun h => nomatch h)⟩
noncomputable abbrev zmd_205 : zMd := (⟨"RaysOfShapes", "isStep", "(I)Z"⟩, prog_1_method_69_code, 1, some .boolean, true, 1, 12)
set_option maxRecDepth 100000 in
theorem zmo_205 : zmOK zmd_205 := ⟨zsub_5 (List.mem_of_getElem? (i := 67) rfl), zsub_1 (List.mem_of_getElem? (i := 1) rfl), zdp_16, rfl, zmh_12, plainFor_of_name zpn_12, (fun _ => zsub_5 (List.mem_of_getElem? (i := 66) rfl)), (fun h => nomatch h)⟩
noncomputable abbrev zmd_206 : zMd := (⟨"RaysOfShapes", "isRun", "(III)Z"⟩, prog_1_method_70_code, 3, some .boolean, true, 3, 12)
set_option maxRecDepth 100000 in
theorem zmo_206 : zmOK zmd_206 := ⟨zsub_2 (List.mem_of_getElem? (i := 124) rfl), zsub_1 (List.mem_of_getElem? (i := 1) rfl), zdp_43, rfl, zmh_12, plainFor_of_name zpn_12, (fun _ => zsub_2 (List.mem_of_getElem? (i := 123) rfl)), (fun h => nomatch h)⟩
noncomputable abbrev zmd_207 : zMd := (⟨"RaysOfShapes", "isRegion", "(II)Z"⟩, prog_1_method_71_code, 3, some .boolean, true, 2, 12)
set_option maxRecDepth 100000 in
theorem zmo_207 : zmOK zmd_207 := ⟨zsub_5 (List.mem_of_getElem? (i := 14) rfl), zsub_1 (List.mem_of_getElem? (i := 1) rfl), zdp_15, rfl, zmh_12, plainFor_of_name zpn_12, (fun _ => zsub_5 (List.mem_of_getElem? (i := 13) rfl)), (fun h => nomatch h)⟩
noncomputable abbrev zmd_208 : zMd := (⟨"RaysOfShapes", "placeAt", "(III)I"⟩, prog_1_method_72_code, 3, some .int, true, 3, 12)
set_option maxRecDepth 100000 in
theorem zmo_208 : zmOK zmd_208 := ⟨zsub_3 (List.mem_of_getElem? (i := 167) rfl), zsub_1 (List.mem_of_getElem? (i := 1) rfl), zdp_44, rfl, zmh_12, plainFor_of_name zpn_12, (fun _ => zsub_3 (List.mem_of_getElem? (i := 166) rfl)), (fun h => nomatch h)⟩
noncomputable abbrev zmd_209 : zMd := (⟨"RaysOfShapes", "numberOn", "(II)I"⟩, prog_1_method_73_code, 2, some .int, true, 2, 12)
set_option maxRecDepth 100000 in
theorem zmo_209 : zmOK zmd_209 := ⟨zsub_2 (List.mem_of_getElem? (i := 207) rfl), zsub_1 (List.mem_of_getElem? (i := 1) rfl), zdp_30, rfl, zmh_12, plainFor_of_name zpn_12, (fun _ => zsub_2 (List.mem_of_getElem? (i := 206) rfl)), (fun h => nomatch h)⟩
noncomputable abbrev zmd_210 : zMd := (⟨"RaysOfShapes", "shiftOf", "(I)I"⟩, prog_1_method_74_code, 1, some .int, true, 1, 12)
set_option maxRecDepth 100000 in
theorem zmo_210 : zmOK zmd_210 := ⟨zsub_2 (List.mem_of_getElem? (i := 210) rfl), zsub_1 (List.mem_of_getElem? (i := 1) rfl), zdp_4, rfl, zmh_12, plainFor_of_name zpn_12, (fun _ => zsub_2 (List.mem_of_getElem? (i := 209) rfl)), (fun h => nomatch h)⟩
noncomputable abbrev zmd_211 : zMd := (⟨"RaysOfShapes", "moved", "(III)I"⟩, prog_1_method_75_code, 3, some .int, true, 3, 12)
set_option maxRecDepth 100000 in
theorem zmo_211 : zmOK zmd_211 := ⟨zsub_5 (List.mem_of_getElem? (i := 75) rfl), zsub_1 (List.mem_of_getElem? (i := 1) rfl), zdp_44, rfl, zmh_12, plainFor_of_name zpn_12, (fun _ => zsub_5 (List.mem_of_getElem? (i := 74) rfl)), (fun h => nomatch h)⟩
noncomputable abbrev zmd_212 : zMd := (⟨"RaysOfShapesModel", "<init>", "()V"⟩, prog_14_method_1_code, 1, none, false, 0, 13)
set_option maxRecDepth 100000 in
theorem zmo_212 : zmOK zmd_212 := ⟨zsub_6 (List.mem_of_getElem? (i := 56) rfl), zsub_1 (List.mem_of_getElem? (i := 12) rfl), zdp_0, rfl, zmh_13, plainFor_of_name zpn_13, (fun h => nomatch h), (fun _ => ⟨zsub_6 (List.mem_of_getElem? (i := 55) rfl), Or.inl rfl⟩)⟩
noncomputable abbrev zmd_213 : zMd := (⟨"RaysOfShapesModel", "is", "(JJJ)Z"⟩, prog_14_method_2_code, 6, some .boolean, true, 3, 13)
set_option maxRecDepth 100000 in
theorem zmo_213 : zmOK zmd_213 := ⟨zsub_6 (List.mem_of_getElem? (i := 183) rfl), zsub_1 (List.mem_of_getElem? (i := 12) rfl), zdp_60, rfl, zmh_13, plainFor_of_name zpn_13, (fun _ => zsub_6 (List.mem_of_getElem? (i := 182) rfl)), (fun h => nomatch h)⟩
noncomputable abbrev zmd_214 : zMd := (⟨"RaysOfShapesModel", "refused", "(I)I"⟩, prog_14_method_3_code, 2, some .int, false, 1, 13)
set_option maxRecDepth 100000 in
theorem zmo_214 : zmOK zmd_214 := ⟨zsub_6 (List.mem_of_getElem? (i := 193) rfl), zsub_1 (List.mem_of_getElem? (i := 12) rfl), zdp_4, rfl, zmh_13, plainFor_of_name zpn_13, (fun h => nomatch h), (fun _ => ⟨zsub_6 (List.mem_of_getElem? (i := 192) rfl), Or.inr (zsub_0 (List.mem_of_getElem? (i := 49) rfl))⟩)⟩
noncomputable abbrev zmd_215 : zMd := (⟨"RaysOfShapesModel", "refusedLong", "(I)J"⟩, prog_14_method_4_code, 2, some .long, false, 1, 13)
set_option maxRecDepth 100000 in
theorem zmo_215 : zmOK zmd_215 := ⟨zsub_6 (List.mem_of_getElem? (i := 189) rfl), zsub_1 (List.mem_of_getElem? (i := 12) rfl), zdp_61, rfl, zmh_13, plainFor_of_name zpn_13, (fun h => nomatch h), (fun _ => ⟨zsub_6 (List.mem_of_getElem? (i := 188) rfl), Or.inr (zsub_0 (List.mem_of_getElem? (i := 48) rfl))⟩)⟩
noncomputable abbrev zmd_216 : zMd := (⟨"RaysOfShapesModel", "of", "(II)I"⟩, prog_14_method_5_code, 3, some .int, false, 2, 13)
set_option maxRecDepth 100000 in
theorem zmo_216 : zmOK zmd_216 := ⟨zsub_6 (List.mem_of_getElem? (i := 202) rfl), zsub_1 (List.mem_of_getElem? (i := 12) rfl), zdp_30, rfl, zmh_13, plainFor_of_name zpn_13, (fun h => nomatch h), (fun _ => ⟨zsub_6 (List.mem_of_getElem? (i := 201) rfl), Or.inr (zsub_0 (List.mem_of_getElem? (i := 51) rfl))⟩)⟩
noncomputable abbrev zmd_217 : zMd := (⟨"RaysOfShapesModel", "number", "(II)I"⟩, prog_14_method_6_code, 3, some .int, false, 2, 13)
set_option maxRecDepth 100000 in
theorem zmo_217 : zmOK zmd_217 := ⟨zsub_6 (List.mem_of_getElem? (i := 206) rfl), zsub_1 (List.mem_of_getElem? (i := 12) rfl), zdp_30, rfl, zmh_13, plainFor_of_name zpn_13, (fun h => nomatch h), (fun _ => ⟨zsub_6 (List.mem_of_getElem? (i := 205) rfl), Or.inr (zsub_0 (List.mem_of_getElem? (i := 52) rfl))⟩)⟩
noncomputable abbrev zmd_218 : zMd := (⟨"RaysOfShapesModel", "isShape", "(I)Z"⟩, prog_14_method_7_code, 2, some .boolean, false, 1, 13)
set_option maxRecDepth 100000 in
theorem zmo_218 : zmOK zmd_218 := ⟨zsub_6 (List.mem_of_getElem? (i := 180) rfl), zsub_1 (List.mem_of_getElem? (i := 12) rfl), zdp_16, rfl, zmh_13, plainFor_of_name zpn_13, (fun h => nomatch h), (fun _ => ⟨zsub_6 (List.mem_of_getElem? (i := 179) rfl), Or.inr (zsub_0 (List.mem_of_getElem? (i := 47) rfl))⟩)⟩
noncomputable abbrev zmd_219 : zMd := (⟨"RaysOfShapesModel", "worthAt", "(IIII)J"⟩, prog_14_method_8_code, 13, some .long, false, 4, 13)
set_option maxRecDepth 100000 in
theorem zmo_219 : zmOK zmd_219 := ⟨zsub_6 (List.mem_of_getElem? (i := 198) rfl), zsub_1 (List.mem_of_getElem? (i := 12) rfl), zdp_54, rfl, zmh_13, plainFor_of_name zpn_13, (fun h => nomatch h), (fun _ => ⟨zsub_6 (List.mem_of_getElem? (i := 197) rfl), Or.inr (zsub_0 (List.mem_of_getElem? (i := 50) rfl))⟩)⟩
noncomputable abbrev zmd_220 : zMd := (⟨"RaysOfShapesModel", "beyond", "(III)J"⟩, prog_14_method_9_code, 4, some .long, false, 3, 13)
set_option maxRecDepth 100000 in
theorem zmo_220 : zmOK zmd_220 := ⟨zsub_6 (List.mem_of_getElem? (i := 211) rfl), zsub_1 (List.mem_of_getElem? (i := 12) rfl), zdp_62, rfl, zmh_13, plainFor_of_name zpn_13, (fun h => nomatch h), (fun _ => ⟨zsub_6 (List.mem_of_getElem? (i := 210) rfl), Or.inr (zsub_0 (List.mem_of_getElem? (i := 53) rfl))⟩)⟩
noncomputable abbrev zmd_221 : zMd := (⟨"RaysOfShapesModel", "blended", "(IJJ)J"⟩, prog_14_method_10_code, 8, some .long, false, 3, 13)
set_option maxRecDepth 100000 in
theorem zmo_221 : zmOK zmd_221 := ⟨zsub_6 (List.mem_of_getElem? (i := 222) rfl), zsub_1 (List.mem_of_getElem? (i := 12) rfl), zdp_63, rfl, zmh_13, plainFor_of_name zpn_13, (fun h => nomatch h), (fun _ => ⟨zsub_6 (List.mem_of_getElem? (i := 221) rfl), Or.inr (zsub_0 (List.mem_of_getElem? (i := 54) rfl))⟩)⟩
noncomputable abbrev zmd_222 : zMd := (⟨"RaysOfShapesModel", "grownBy", "(I)J"⟩, prog_14_method_11_code, 2, some .long, false, 1, 13)
set_option maxRecDepth 100000 in
theorem zmo_222 : zmOK zmd_222 := ⟨zsub_6 (List.mem_of_getElem? (i := 234) rfl), zsub_1 (List.mem_of_getElem? (i := 12) rfl), zdp_61, rfl, zmh_13, plainFor_of_name zpn_13, (fun h => nomatch h), (fun _ => ⟨zsub_6 (List.mem_of_getElem? (i := 233) rfl), Or.inr (zsub_0 (List.mem_of_getElem? (i := 56) rfl))⟩)⟩
noncomputable abbrev zmd_223 : zMd := (⟨"RaysOfShapesModel", "pick", "(IIII)I"⟩, prog_14_method_12_code, 4, some .int, true, 4, 13)
set_option maxRecDepth 100000 in
theorem zmo_223 : zmOK zmd_223 := ⟨zsub_6 (List.mem_of_getElem? (i := 230) rfl), zsub_1 (List.mem_of_getElem? (i := 12) rfl), zdp_51, rfl, zmh_13, plainFor_of_name zpn_13, (fun _ => zsub_6 (List.mem_of_getElem? (i := 229) rfl)), (fun h => nomatch h)⟩
noncomputable abbrev zmd_224 : zMd := (⟨"RaysOfShapesModel", "changed", "(IIII)J"⟩, prog_14_method_13_code, 10, some .long, false, 4, 13)
set_option maxRecDepth 100000 in
theorem zmo_224 : zmOK zmd_224 := ⟨zsub_6 (List.mem_of_getElem? (i := 226) rfl), zsub_1 (List.mem_of_getElem? (i := 12) rfl), zdp_54, rfl, zmh_13, plainFor_of_name zpn_13, (fun h => nomatch h), (fun _ => ⟨zsub_6 (List.mem_of_getElem? (i := 225) rfl), Or.inr (zsub_0 (List.mem_of_getElem? (i := 55) rfl))⟩)⟩
noncomputable abbrev zmd_225 : zMd := (⟨"RaysOfShapesModel", "common", "(JJ)J"⟩, prog_14_method_14_code, 10, some .long, true, 2, 13)
set_option maxRecDepth 100000 in
theorem zmo_225 : zmOK zmd_225 := ⟨zsub_7 (List.mem_of_getElem? (i := 1) rfl), zsub_1 (List.mem_of_getElem? (i := 12) rfl), zdp_64, rfl, zmh_13, plainFor_of_name zpn_13, (fun _ => zsub_7 (List.mem_of_getElem? (i := 0) rfl)), (fun h => nomatch h)⟩
noncomputable abbrev zmd_226 : zMd := (⟨"RaysOfShapesModel", "lowest", "(JZ)J"⟩, prog_14_method_15_code, 5, some .long, true, 2, 13)
set_option maxRecDepth 100000 in
theorem zmo_226 : zmOK zmd_226 := ⟨zsub_6 (List.mem_of_getElem? (i := 238) rfl), zsub_1 (List.mem_of_getElem? (i := 12) rfl), zdp_65, rfl, zmh_13, plainFor_of_name zpn_13, (fun _ => zsub_6 (List.mem_of_getElem? (i := 237) rfl)), (fun h => nomatch h)⟩
noncomputable abbrev zmd_227 : zMd := (⟨"RaysOfShapesModel", "worth", "(IIIII)J"⟩, prog_14_method_16_code, 6, some .long, false, 5, 13)
set_option maxRecDepth 100000 in
theorem zmo_227 : zmOK zmd_227 := ⟨zsub_6 (List.mem_of_getElem? (i := 176) rfl), zsub_1 (List.mem_of_getElem? (i := 12) rfl), zdp_53, rfl, zmh_13, plainFor_of_name zpn_13, (fun h => nomatch h), (fun _ => ⟨zsub_6 (List.mem_of_getElem? (i := 174) rfl), Or.inr (zsub_6 (List.mem_of_getElem? (i := 175) rfl))⟩)⟩
noncomputable abbrev zmd_228 : zMd := (⟨"RaysOfShapesModel", "leastSquare", "(JJ)J"⟩, prog_14_method_17_code, 4, some .long, true, 2, 13)
set_option maxRecDepth 100000 in
theorem zmo_228 : zmOK zmd_228 := ⟨zsub_7 (List.mem_of_getElem? (i := 26) rfl), zsub_1 (List.mem_of_getElem? (i := 12) rfl), zdp_64, rfl, zmh_13, plainFor_of_name zpn_13, (fun _ => zsub_7 (List.mem_of_getElem? (i := 25) rfl)), (fun h => nomatch h)⟩
noncomputable abbrev zmd_229 : zMd := (⟨"RaysOfShapesModel", "greatestSquare", "(JJ)J"⟩, prog_14_method_18_code, 4, some .long, true, 2, 13)
set_option maxRecDepth 100000 in
theorem zmo_229 : zmOK zmd_229 := ⟨zsub_7 (List.mem_of_getElem? (i := 29) rfl), zsub_1 (List.mem_of_getElem? (i := 12) rfl), zdp_64, rfl, zmh_13, plainFor_of_name zpn_13, (fun _ => zsub_7 (List.mem_of_getElem? (i := 28) rfl)), (fun h => nomatch h)⟩
noncomputable abbrev zmd_230 : zMd := (⟨"RaysOfShapesModel", "bound", "(IIIIIIII)V"⟩, prog_14_method_19_code, 17, none, false, 8, 13)
set_option maxRecDepth 100000 in
theorem zmo_230 : zmOK zmd_230 := ⟨zsub_7 (List.mem_of_getElem? (i := 23) rfl), zsub_1 (List.mem_of_getElem? (i := 12) rfl), zdp_66, rfl, zmh_13, plainFor_of_name zpn_13, (fun h => nomatch h), (fun _ => ⟨zsub_7 (List.mem_of_getElem? (i := 22) rfl), Or.inr (zsub_0 (List.mem_of_getElem? (i := 57) rfl))⟩)⟩
noncomputable abbrev zmd_231 : zMd := (⟨"RaysOfShapesModel", "lowBeyond", "(IIII)J"⟩, prog_14_method_20_code, 5, some .long, false, 4, 13)
set_option maxRecDepth 100000 in
theorem zmo_231 : zmOK zmd_231 := ⟨zsub_7 (List.mem_of_getElem? (i := 33) rfl), zsub_1 (List.mem_of_getElem? (i := 12) rfl), zdp_54, rfl, zmh_13, plainFor_of_name zpn_13, (fun h => nomatch h), (fun _ => ⟨zsub_7 (List.mem_of_getElem? (i := 32) rfl), Or.inr (zsub_0 (List.mem_of_getElem? (i := 58) rfl))⟩)⟩
noncomputable abbrev zmd_232 : zMd := (⟨"RaysOfShapesModel", "highBeyond", "(IIII)J"⟩, prog_14_method_21_code, 5, some .long, false, 4, 13)
set_option maxRecDepth 100000 in
theorem zmo_232 : zmOK zmd_232 := ⟨zsub_7 (List.mem_of_getElem? (i := 37) rfl), zsub_1 (List.mem_of_getElem? (i := 12) rfl), zdp_54, rfl, zmh_13, plainFor_of_name zpn_13, (fun h => nomatch h), (fun _ => ⟨zsub_7 (List.mem_of_getElem? (i := 36) rfl), Or.inr (zsub_0 (List.mem_of_getElem? (i := 59) rfl))⟩)⟩
noncomputable abbrev zmd_233 : zMd := (⟨"RaysOfShapesModel", "lesser", "(JJJ)J"⟩, prog_14_method_22_code, 6, some .long, true, 3, 13)
set_option maxRecDepth 100000 in
theorem zmo_233 : zmOK zmd_233 := ⟨zsub_7 (List.mem_of_getElem? (i := 40) rfl), zsub_1 (List.mem_of_getElem? (i := 12) rfl), zdp_67, rfl, zmh_13, plainFor_of_name zpn_13, (fun _ => zsub_7 (List.mem_of_getElem? (i := 39) rfl)), (fun h => nomatch h)⟩
noncomputable abbrev zmd_234 : zMd := (⟨"RaysOfShapesModel", "boundPair", "(IIIIIIII)V"⟩, prog_14_method_23_code, 15, none, false, 8, 13)
set_option maxRecDepth 100000 in
theorem zmo_234 : zmOK zmd_234 := ⟨zsub_7 (List.mem_of_getElem? (i := 44) rfl), zsub_1 (List.mem_of_getElem? (i := 12) rfl), zdp_66, rfl, zmh_13, plainFor_of_name zpn_13, (fun h => nomatch h), (fun _ => ⟨zsub_7 (List.mem_of_getElem? (i := 43) rfl), Or.inr (zsub_0 (List.mem_of_getElem? (i := 60) rfl))⟩)⟩
noncomputable abbrev zmd_235 : zMd := (⟨"RaysOfShapesModel", "isWithin", "(III)Z"⟩, prog_14_method_24_code, 3, some .boolean, true, 3, 13)
set_option maxRecDepth 100000 in
theorem zmo_235 : zmOK zmd_235 := ⟨zsub_7 (List.mem_of_getElem? (i := 54) rfl), zsub_1 (List.mem_of_getElem? (i := 12) rfl), zdp_43, rfl, zmh_13, plainFor_of_name zpn_13, (fun _ => zsub_7 (List.mem_of_getElem? (i := 53) rfl)), (fun h => nomatch h)⟩
noncomputable abbrev zmd_236 : zMd := (⟨"RaysOfShapesModel", "repeatFrom", "(III)I"⟩, prog_14_method_25_code, 3, some .int, true, 3, 13)
set_option maxRecDepth 100000 in
theorem zmo_236 : zmOK zmd_236 := ⟨zsub_7 (List.mem_of_getElem? (i := 51) rfl), zsub_1 (List.mem_of_getElem? (i := 12) rfl), zdp_44, rfl, zmh_13, plainFor_of_name zpn_13, (fun _ => zsub_7 (List.mem_of_getElem? (i := 50) rfl)), (fun h => nomatch h)⟩
noncomputable abbrev zmd_237 : zMd := (⟨"RaysOfShapesModel", "repeatTo", "(III)I"⟩, prog_14_method_26_code, 3, some .int, true, 3, 13)
set_option maxRecDepth 100000 in
theorem zmo_237 : zmOK zmd_237 := ⟨zsub_7 (List.mem_of_getElem? (i := 57) rfl), zsub_1 (List.mem_of_getElem? (i := 12) rfl), zdp_44, rfl, zmh_13, plainFor_of_name zpn_13, (fun _ => zsub_7 (List.mem_of_getElem? (i := 56) rfl)), (fun h => nomatch h)⟩
noncomputable abbrev zmd_238 : zMd := (⟨"RaysOfShapesModel", "mirrorFrom", "(III)I"⟩, prog_14_method_27_code, 3, some .int, true, 3, 13)
set_option maxRecDepth 100000 in
theorem zmo_238 : zmOK zmd_238 := ⟨zsub_7 (List.mem_of_getElem? (i := 60) rfl), zsub_1 (List.mem_of_getElem? (i := 12) rfl), zdp_44, rfl, zmh_13, plainFor_of_name zpn_13, (fun _ => zsub_7 (List.mem_of_getElem? (i := 59) rfl)), (fun h => nomatch h)⟩
noncomputable abbrev zmd_239 : zMd := (⟨"RaysOfShapesModel", "mirrorTo", "(III)I"⟩, prog_14_method_28_code, 3, some .int, true, 3, 13)
set_option maxRecDepth 100000 in
theorem zmo_239 : zmOK zmd_239 := ⟨zsub_7 (List.mem_of_getElem? (i := 64) rfl), zsub_1 (List.mem_of_getElem? (i := 12) rfl), zdp_44, rfl, zmh_13, plainFor_of_name zpn_13, (fun _ => zsub_7 (List.mem_of_getElem? (i := 63) rfl)), (fun h => nomatch h)⟩
noncomputable abbrev zmd_240 : zMd := (⟨"RaysOfShapesModel", "boundChange", "(IIIIIIII)V"⟩, prog_14_method_29_code, 13, none, false, 8, 13)
set_option maxRecDepth 100000 in
theorem zmo_240 : zmOK zmd_240 := ⟨zsub_7 (List.mem_of_getElem? (i := 48) rfl), zsub_1 (List.mem_of_getElem? (i := 12) rfl), zdp_66, rfl, zmh_13, plainFor_of_name zpn_13, (fun h => nomatch h), (fun _ => ⟨zsub_7 (List.mem_of_getElem? (i := 47) rfl), Or.inr (zsub_0 (List.mem_of_getElem? (i := 61) rfl))⟩)⟩
noncomputable abbrev zmd_241 : zMd := (⟨"RaysOfShapesModel", "boundTurn", "(IIIIIIIIII)V"⟩, prog_14_method_30_code, 15, none, false, 10, 13)
set_option maxRecDepth 100000 in
theorem zmo_241 : zmOK zmd_241 := ⟨zsub_7 (List.mem_of_getElem? (i := 68) rfl), zsub_1 (List.mem_of_getElem? (i := 12) rfl), zdp_68, rfl, zmh_13, plainFor_of_name zpn_13, (fun h => nomatch h), (fun _ => ⟨zsub_7 (List.mem_of_getElem? (i := 67) rfl), Or.inr (zsub_0 (List.mem_of_getElem? (i := 62) rfl))⟩)⟩
noncomputable abbrev zmd_242 : zMd := (⟨"RaysOfShapesModel", "boundGrown", "(II)V"⟩, prog_14_method_31_code, 7, none, false, 2, 13)
set_option maxRecDepth 100000 in
theorem zmo_242 : zmOK zmd_242 := ⟨zsub_7 (List.mem_of_getElem? (i := 72) rfl), zsub_1 (List.mem_of_getElem? (i := 12) rfl), zdp_13, rfl, zmh_13, plainFor_of_name zpn_13, (fun h => nomatch h), (fun _ => ⟨zsub_7 (List.mem_of_getElem? (i := 71) rfl), Or.inr (zsub_0 (List.mem_of_getElem? (i := 63) rfl))⟩)⟩
noncomputable abbrev zmd_243 : zMd := (⟨"RaysOfShapesModel", "xOf", "(I)I"⟩, prog_14_method_32_code, 1, some .int, true, 1, 13)
set_option maxRecDepth 100000 in
theorem zmo_243 : zmOK zmd_243 := ⟨zsub_7 (List.mem_of_getElem? (i := 12) rfl), zsub_1 (List.mem_of_getElem? (i := 12) rfl), zdp_4, rfl, zmh_13, plainFor_of_name zpn_13, (fun _ => zsub_7 (List.mem_of_getElem? (i := 11) rfl)), (fun h => nomatch h)⟩
noncomputable abbrev zmd_244 : zMd := (⟨"RaysOfShapesModel", "yOf", "(I)I"⟩, prog_14_method_33_code, 1, some .int, true, 1, 13)
set_option maxRecDepth 100000 in
theorem zmo_244 : zmOK zmd_244 := ⟨zsub_7 (List.mem_of_getElem? (i := 15) rfl), zsub_1 (List.mem_of_getElem? (i := 12) rfl), zdp_4, rfl, zmh_13, plainFor_of_name zpn_13, (fun _ => zsub_7 (List.mem_of_getElem? (i := 14) rfl)), (fun h => nomatch h)⟩
noncomputable abbrev zmd_245 : zMd := (⟨"RaysOfShapesModel", "zOf", "(I)I"⟩, prog_14_method_34_code, 1, some .int, true, 1, 13)
set_option maxRecDepth 100000 in
theorem zmo_245 : zmOK zmd_245 := ⟨zsub_7 (List.mem_of_getElem? (i := 18) rfl), zsub_1 (List.mem_of_getElem? (i := 12) rfl), zdp_4, rfl, zmh_13, plainFor_of_name zpn_13, (fun _ => zsub_7 (List.mem_of_getElem? (i := 17) rfl)), (fun h => nomatch h)⟩
noncomputable abbrev zmd_246 : zMd := (⟨"RaysOfShapesModel", "isPlace", "(I)Z"⟩, prog_14_method_35_code, 1, some .boolean, true, 1, 13)
set_option maxRecDepth 100000 in
theorem zmo_246 : zmOK zmd_246 := ⟨zsub_7 (List.mem_of_getElem? (i := 8) rfl), zsub_1 (List.mem_of_getElem? (i := 12) rfl), zdp_16, rfl, zmh_13, plainFor_of_name zpn_13, (fun _ => zsub_7 (List.mem_of_getElem? (i := 7) rfl)), (fun h => nomatch h)⟩
noncomputable abbrev zmd_247 : zMd := (⟨"RaysOfShapesModel", "bounds", "(IIII)J"⟩, prog_14_method_36_code, 5, some .long, false, 4, 13)
set_option maxRecDepth 100000 in
theorem zmo_247 : zmOK zmd_247 := ⟨zsub_7 (List.mem_of_getElem? (i := 5) rfl), zsub_1 (List.mem_of_getElem? (i := 12) rfl), zdp_54, rfl, zmh_13, plainFor_of_name zpn_13, (fun h => nomatch h), (fun _ => ⟨zsub_7 (List.mem_of_getElem? (i := 3) rfl), Or.inr (zsub_7 (List.mem_of_getElem? (i := 4) rfl))⟩)⟩
noncomputable abbrev zmd_248 : zMd := (⟨"RaysOfShapesModel", "isInside", "(II)Z"⟩, prog_14_method_37_code, 3, some .boolean, false, 2, 13)
set_option maxRecDepth 100000 in
theorem zmo_248 : zmOK zmd_248 := ⟨zsub_7 (List.mem_of_getElem? (i := 80) rfl), zsub_1 (List.mem_of_getElem? (i := 12) rfl), zdp_15, rfl, zmh_13, plainFor_of_name zpn_13, (fun h => nomatch h), (fun _ => ⟨zsub_7 (List.mem_of_getElem? (i := 79) rfl), Or.inr (zsub_0 (List.mem_of_getElem? (i := 64) rfl))⟩)⟩
noncomputable abbrev zmd_249 : zMd := (⟨"RaysOfShapesModel", "fills", "(II)I"⟩, prog_14_method_38_code, 5, some .int, false, 2, 13)
set_option maxRecDepth 100000 in
theorem zmo_249 : zmOK zmd_249 := ⟨zsub_7 (List.mem_of_getElem? (i := 88) rfl), zsub_1 (List.mem_of_getElem? (i := 12) rfl), zdp_30, rfl, zmh_13, plainFor_of_name zpn_13, (fun h => nomatch h), (fun _ => ⟨zsub_7 (List.mem_of_getElem? (i := 87) rfl), Or.inr (zsub_0 (List.mem_of_getElem? (i := 65) rfl))⟩)⟩
noncomputable abbrev zmd_250 : zMd := (⟨"RaysOfShapesModel", "in", "(II)I"⟩, prog_14_method_39_code, 3, some .int, false, 2, 13)
set_option maxRecDepth 100000 in
theorem zmo_250 : zmOK zmd_250 := ⟨zsub_7 (List.mem_of_getElem? (i := 76) rfl), zsub_1 (List.mem_of_getElem? (i := 12) rfl), zdp_30, rfl, zmh_13, plainFor_of_name zpn_13, (fun h => nomatch h), (fun _ => ⟨zsub_7 (List.mem_of_getElem? (i := 74) rfl), Or.inr (zsub_7 (List.mem_of_getElem? (i := 75) rfl))⟩)⟩
noncomputable abbrev zmd_251 : zMd := (⟨"RaysOfShapesModel", "looked", "(IIIII)I"⟩, prog_14_method_40_code, 9, some .int, false, 5, 13)
set_option maxRecDepth 100000 in
theorem zmo_251 : zmOK zmd_251 := ⟨zsub_7 (List.mem_of_getElem? (i := 92) rfl), zsub_1 (List.mem_of_getElem? (i := 12) rfl), zdp_50, rfl, zmh_13, plainFor_of_name zpn_13, (fun h => nomatch h), (fun _ => ⟨zsub_7 (List.mem_of_getElem? (i := 91) rfl), Or.inr (zsub_0 (List.mem_of_getElem? (i := 66) rfl))⟩)⟩
noncomputable abbrev zmd_252 : zMd := (⟨"RaysOfShapesModel", "count", "(II)I"⟩, prog_14_method_41_code, 3, some .int, false, 2, 13)
set_option maxRecDepth 100000 in
theorem zmo_252 : zmOK zmd_252 := ⟨zsub_7 (List.mem_of_getElem? (i := 84) rfl), zsub_1 (List.mem_of_getElem? (i := 12) rfl), zdp_30, rfl, zmh_13, plainFor_of_name zpn_13, (fun h => nomatch h), (fun _ => ⟨zsub_7 (List.mem_of_getElem? (i := 82) rfl), Or.inr (zsub_7 (List.mem_of_getElem? (i := 83) rfl))⟩)⟩
noncomputable abbrev zmd_253 : zMd := (⟨"RaysOfShapesModel", "placeOf", "(II)I"⟩, prog_14_method_42_code, 5, some .int, false, 2, 13)
set_option maxRecDepth 100000 in
theorem zmo_253 : zmOK zmd_253 := ⟨zsub_7 (List.mem_of_getElem? (i := 96) rfl), zsub_1 (List.mem_of_getElem? (i := 12) rfl), zdp_30, rfl, zmh_13, plainFor_of_name zpn_13, (fun h => nomatch h), (fun _ => ⟨zsub_7 (List.mem_of_getElem? (i := 94) rfl), Or.inr (zsub_7 (List.mem_of_getElem? (i := 95) rfl))⟩)⟩
noncomputable abbrev zmd_254 : zMd := (⟨"RaysOfShapesModel", "axisOf", "(II)I"⟩, prog_14_method_43_code, 2, some .int, true, 2, 13)
set_option maxRecDepth 100000 in
theorem zmo_254 : zmOK zmd_254 := ⟨zsub_7 (List.mem_of_getElem? (i := 105) rfl), zsub_1 (List.mem_of_getElem? (i := 12) rfl), zdp_30, rfl, zmh_13, plainFor_of_name zpn_13, (fun _ => zsub_7 (List.mem_of_getElem? (i := 104) rfl)), (fun h => nomatch h)⟩
noncomputable abbrev zmd_255 : zMd := (⟨"RaysOfShapesModel", "slice", "(III)I"⟩, prog_14_method_44_code, 6, some .int, false, 3, 13)
set_option maxRecDepth 100000 in
theorem zmo_255 : zmOK zmd_255 := ⟨zsub_7 (List.mem_of_getElem? (i := 100) rfl), zsub_1 (List.mem_of_getElem? (i := 12) rfl), zdp_44, rfl, zmh_13, plainFor_of_name zpn_13, (fun h => nomatch h), (fun _ => ⟨zsub_7 (List.mem_of_getElem? (i := 98) rfl), Or.inr (zsub_7 (List.mem_of_getElem? (i := 99) rfl))⟩)⟩
noncomputable abbrev zmd_256 : zMd := (⟨"RaysOfShapesModel", "reach", "(III)I"⟩, prog_14_method_45_code, 7, some .int, false, 3, 13)
set_option maxRecDepth 100000 in
theorem zmo_256 : zmOK zmd_256 := ⟨zsub_7 (List.mem_of_getElem? (i := 109) rfl), zsub_1 (List.mem_of_getElem? (i := 12) rfl), zdp_44, rfl, zmh_13, plainFor_of_name zpn_13, (fun h => nomatch h), (fun _ => ⟨zsub_7 (List.mem_of_getElem? (i := 107) rfl), Or.inr (zsub_7 (List.mem_of_getElem? (i := 108) rfl))⟩)⟩
noncomputable abbrev zmd_257 : zMd := (⟨"RaysOfShapesModel", "ray", "(IIIIII)I"⟩, prog_14_method_46_code, 16, some .int, false, 6, 13)
set_option maxRecDepth 100000 in
theorem zmo_257 : zmOK zmd_257 := ⟨zsub_7 (List.mem_of_getElem? (i := 113) rfl), zsub_1 (List.mem_of_getElem? (i := 12) rfl), zdp_52, rfl, zmh_13, plainFor_of_name zpn_13, (fun h => nomatch h), (fun _ => ⟨zsub_7 (List.mem_of_getElem? (i := 111) rfl), Or.inr (zsub_7 (List.mem_of_getElem? (i := 112) rfl))⟩)⟩
noncomputable abbrev zmd_258 : zMd := (⟨"RaysOfShapesModel", "neighbour", "(II)I"⟩, prog_14_method_47_code, 4, some .int, true, 2, 13)
set_option maxRecDepth 100000 in
theorem zmo_258 : zmOK zmd_258 := ⟨zsub_7 (List.mem_of_getElem? (i := 126) rfl), zsub_1 (List.mem_of_getElem? (i := 12) rfl), zdp_30, rfl, zmh_13, plainFor_of_name zpn_13, (fun _ => zsub_7 (List.mem_of_getElem? (i := 125) rfl)), (fun h => nomatch h)⟩
noncomputable abbrev zmd_259 : zMd := (⟨"RaysOfShapesModel", "skinOf", "(I)I"⟩, prog_14_method_48_code, 7, some .int, false, 1, 13)
set_option maxRecDepth 100000 in
theorem zmo_259 : zmOK zmd_259 := ⟨zsub_7 (List.mem_of_getElem? (i := 123) rfl), zsub_1 (List.mem_of_getElem? (i := 12) rfl), zdp_4, rfl, zmh_13, plainFor_of_name zpn_13, (fun h => nomatch h), (fun _ => ⟨zsub_7 (List.mem_of_getElem? (i := 122) rfl), Or.inr (zsub_0 (List.mem_of_getElem? (i := 67) rfl))⟩)⟩
noncomputable abbrev zmd_260 : zMd := (⟨"RaysOfShapesModel", "piece", "(II)I"⟩, prog_14_method_49_code, 7, some .int, false, 2, 13)
set_option maxRecDepth 100000 in
theorem zmo_260 : zmOK zmd_260 := ⟨zsub_7 (List.mem_of_getElem? (i := 138) rfl), zsub_1 (List.mem_of_getElem? (i := 12) rfl), zdp_30, rfl, zmh_13, plainFor_of_name zpn_13, (fun h => nomatch h), (fun _ => ⟨zsub_7 (List.mem_of_getElem? (i := 137) rfl), Or.inr (zsub_0 (List.mem_of_getElem? (i := 69) rfl))⟩)⟩
noncomputable abbrev zmd_261 : zMd := (⟨"RaysOfShapesModel", "piecesOf", "(II)I"⟩, prog_14_method_50_code, 8, some .int, false, 2, 13)
set_option maxRecDepth 100000 in
theorem zmo_261 : zmOK zmd_261 := ⟨zsub_7 (List.mem_of_getElem? (i := 134) rfl), zsub_1 (List.mem_of_getElem? (i := 12) rfl), zdp_30, rfl, zmh_13, plainFor_of_name zpn_13, (fun h => nomatch h), (fun _ => ⟨zsub_7 (List.mem_of_getElem? (i := 133) rfl), Or.inr (zsub_0 (List.mem_of_getElem? (i := 68) rfl))⟩)⟩
noncomputable abbrev zmd_262 : zMd := (⟨"RaysOfShapesModel", "skin", "(I)I"⟩, prog_14_method_51_code, 3, some .int, false, 1, 13)
set_option maxRecDepth 100000 in
theorem zmo_262 : zmOK zmd_262 := ⟨zsub_7 (List.mem_of_getElem? (i := 119) rfl), zsub_1 (List.mem_of_getElem? (i := 12) rfl), zdp_4, rfl, zmh_13, plainFor_of_name zpn_13, (fun h => nomatch h), (fun _ => ⟨zsub_7 (List.mem_of_getElem? (i := 117) rfl), Or.inr (zsub_7 (List.mem_of_getElem? (i := 118) rfl))⟩)⟩
noncomputable abbrev zmd_263 : zMd := (⟨"RaysOfShapesModel", "pieces", "(II)I"⟩, prog_14_method_52_code, 4, some .int, false, 2, 13)
set_option maxRecDepth 100000 in
theorem zmo_263 : zmOK zmd_263 := ⟨zsub_7 (List.mem_of_getElem? (i := 130) rfl), zsub_1 (List.mem_of_getElem? (i := 12) rfl), zdp_30, rfl, zmh_13, plainFor_of_name zpn_13, (fun h => nomatch h), (fun _ => ⟨zsub_7 (List.mem_of_getElem? (i := 128) rfl), Or.inr (zsub_7 (List.mem_of_getElem? (i := 129) rfl))⟩)⟩
noncomputable abbrev zmd_264 : zMd := (⟨"RaysOfShapesModel", "fillsBoth", "(II)I"⟩, prog_14_method_53_code, 7, some .int, false, 2, 13)
set_option maxRecDepth 100000 in
theorem zmo_264 : zmOK zmd_264 := ⟨zsub_7 (List.mem_of_getElem? (i := 146) rfl), zsub_1 (List.mem_of_getElem? (i := 12) rfl), zdp_30, rfl, zmh_13, plainFor_of_name zpn_13, (fun h => nomatch h), (fun _ => ⟨zsub_7 (List.mem_of_getElem? (i := 145) rfl), Or.inr (zsub_0 (List.mem_of_getElem? (i := 70) rfl))⟩)⟩
noncomputable abbrev zmd_265 : zMd := (⟨"RaysOfShapesModel", "both", "(II)I"⟩, prog_14_method_54_code, 3, some .int, false, 2, 13)
set_option maxRecDepth 100000 in
theorem zmo_265 : zmOK zmd_265 := ⟨zsub_7 (List.mem_of_getElem? (i := 142) rfl), zsub_1 (List.mem_of_getElem? (i := 12) rfl), zdp_30, rfl, zmh_13, plainFor_of_name zpn_13, (fun h => nomatch h), (fun _ => ⟨zsub_7 (List.mem_of_getElem? (i := 140) rfl), Or.inr (zsub_7 (List.mem_of_getElem? (i := 141) rfl))⟩)⟩
noncomputable abbrev zmd_266 : zMd := (⟨"RaysOfShapesModel", "differ", "(II)I"⟩, prog_14_method_55_code, 4, some .int, false, 2, 13)
set_option maxRecDepth 100000 in
theorem zmo_266 : zmOK zmd_266 := ⟨zsub_7 (List.mem_of_getElem? (i := 150) rfl), zsub_1 (List.mem_of_getElem? (i := 12) rfl), zdp_30, rfl, zmh_13, plainFor_of_name zpn_13, (fun h => nomatch h), (fun _ => ⟨zsub_7 (List.mem_of_getElem? (i := 148) rfl), Or.inr (zsub_7 (List.mem_of_getElem? (i := 149) rfl))⟩)⟩
noncomputable abbrev zmd_267 : zMd := (⟨"RaysOfShapesModel", "turned", "(II)I"⟩, prog_14_method_56_code, 3, some .int, true, 2, 13)
set_option maxRecDepth 100000 in
theorem zmo_267 : zmOK zmd_267 := ⟨zsub_7 (List.mem_of_getElem? (i := 157) rfl), zsub_1 (List.mem_of_getElem? (i := 12) rfl), zdp_30, rfl, zmh_13, plainFor_of_name zpn_13, (fun _ => zsub_7 (List.mem_of_getElem? (i := 156) rfl)), (fun h => nomatch h)⟩
noncomputable abbrev zmd_268 : zMd := (⟨"RaysOfShapesModel", "even", "(II)I"⟩, prog_14_method_57_code, 5, some .int, false, 2, 13)
set_option maxRecDepth 100000 in
theorem zmo_268 : zmOK zmd_268 := ⟨zsub_7 (List.mem_of_getElem? (i := 154) rfl), zsub_1 (List.mem_of_getElem? (i := 12) rfl), zdp_30, rfl, zmh_13, plainFor_of_name zpn_13, (fun h => nomatch h), (fun _ => ⟨zsub_7 (List.mem_of_getElem? (i := 152) rfl), Or.inr (zsub_7 (List.mem_of_getElem? (i := 153) rfl))⟩)⟩
noncomputable abbrev zmd_269 : zMd := (⟨"RaysOfShapesModel", "meets", "(II)Z"⟩, prog_14_method_58_code, 5, some .boolean, false, 2, 13)
set_option maxRecDepth 100000 in
theorem zmo_269 : zmOK zmd_269 := ⟨zsub_7 (List.mem_of_getElem? (i := 165) rfl), zsub_1 (List.mem_of_getElem? (i := 12) rfl), zdp_15, rfl, zmh_13, plainFor_of_name zpn_13, (fun h => nomatch h), (fun _ => ⟨zsub_7 (List.mem_of_getElem? (i := 164) rfl), Or.inr (zsub_0 (List.mem_of_getElem? (i := 71) rfl))⟩)⟩
noncomputable abbrev zmd_270 : zMd := (⟨"RaysOfShapesModel", "apart", "(III)I"⟩, prog_14_method_59_code, 6, some .int, false, 3, 13)
set_option maxRecDepth 100000 in
theorem zmo_270 : zmOK zmd_270 := ⟨zsub_7 (List.mem_of_getElem? (i := 161) rfl), zsub_1 (List.mem_of_getElem? (i := 12) rfl), zdp_44, rfl, zmh_13, plainFor_of_name zpn_13, (fun h => nomatch h), (fun _ => ⟨zsub_7 (List.mem_of_getElem? (i := 159) rfl), Or.inr (zsub_7 (List.mem_of_getElem? (i := 160) rfl))⟩)⟩
noncomputable abbrev zmd_271 : zMd := (⟨"RaysOfShapesModel", "blendsOver", "(II)I"⟩, prog_14_method_60_code, 3, some .int, false, 2, 13)
set_option maxRecDepth 100000 in
theorem zmo_271 : zmOK zmd_271 := ⟨zsub_7 (List.mem_of_getElem? (i := 179) rfl), zsub_1 (List.mem_of_getElem? (i := 12) rfl), zdp_30, rfl, zmh_13, plainFor_of_name zpn_13, (fun h => nomatch h), (fun _ => ⟨zsub_7 (List.mem_of_getElem? (i := 178) rfl), Or.inr (zsub_0 (List.mem_of_getElem? (i := 73) rfl))⟩)⟩
noncomputable abbrev zmd_272 : zMd := (⟨"RaysOfShapesModel", "deepOver", "(II)I"⟩, prog_14_method_61_code, 3, some .int, false, 2, 13)
set_option maxRecDepth 100000 in
theorem zmo_272 : zmOK zmd_272 := ⟨zsub_7 (List.mem_of_getElem? (i := 175) rfl), zsub_1 (List.mem_of_getElem? (i := 12) rfl), zdp_30, rfl, zmh_13, plainFor_of_name zpn_13, (fun h => nomatch h), (fun _ => ⟨zsub_7 (List.mem_of_getElem? (i := 174) rfl), Or.inr (zsub_0 (List.mem_of_getElem? (i := 72) rfl))⟩)⟩
noncomputable abbrev zmd_273 : zMd := (⟨"RaysOfShapesModel", "enough", "(IIII)I"⟩, prog_14_method_62_code, 12, some .int, false, 4, 13)
set_option maxRecDepth 100000 in
theorem zmo_273 : zmOK zmd_273 := ⟨zsub_7 (List.mem_of_getElem? (i := 169) rfl), zsub_1 (List.mem_of_getElem? (i := 12) rfl), zdp_51, rfl, zmh_13, plainFor_of_name zpn_13, (fun h => nomatch h), (fun _ => ⟨zsub_7 (List.mem_of_getElem? (i := 167) rfl), Or.inr (zsub_7 (List.mem_of_getElem? (i := 168) rfl))⟩)⟩
noncomputable abbrev zmd_274 : zMd := (⟨"RaysOfShapesModel", "isNumber", "(IIII)Z"⟩, prog_14_method_63_code, 4, some .boolean, true, 4, 13)
set_option maxRecDepth 100000 in
theorem zmo_274 : zmOK zmd_274 := ⟨zsub_7 (List.mem_of_getElem? (i := 204) rfl), zsub_1 (List.mem_of_getElem? (i := 12) rfl), zdp_57, rfl, zmh_13, plainFor_of_name zpn_13, (fun _ => zsub_7 (List.mem_of_getElem? (i := 203) rfl)), (fun h => nomatch h)⟩
noncomputable abbrev zmd_275 : zMd := (⟨"RaysOfShapesModel", "aheadOf", "([III)I"⟩, prog_14_method_64_code, 3, some .int, true, 3, 13)
set_option maxRecDepth 100000 in
theorem zmo_275 : zmOK zmd_275 := ⟨zsub_7 (List.mem_of_getElem? (i := 201) rfl), zsub_1 (List.mem_of_getElem? (i := 12) rfl), zdp_69, rfl, zmh_13, plainFor_of_name zpn_13, (fun _ => zsub_7 (List.mem_of_getElem? (i := 200) rfl)), (fun h => nomatch h)⟩
noncomputable abbrev zmd_276 : zMd := (⟨"RaysOfShapesModel", "numbersOf", "(I)I"⟩, prog_14_method_65_code, 1, some .int, true, 1, 13)
set_option maxRecDepth 100000 in
theorem zmo_276 : zmOK zmd_276 := ⟨zsub_7 (List.mem_of_getElem? (i := 198) rfl), zsub_1 (List.mem_of_getElem? (i := 12) rfl), zdp_4, rfl, zmh_13, plainFor_of_name zpn_13, (fun _ => zsub_7 (List.mem_of_getElem? (i := 197) rfl)), (fun h => nomatch h)⟩
noncomputable abbrev zmd_277 : zMd := (⟨"RaysOfShapesModel", "areNumbers", "(I)Z"⟩, prog_14_method_66_code, 3, some .boolean, false, 1, 13)
set_option maxRecDepth 100000 in
theorem zmo_277 : zmOK zmd_277 := ⟨zsub_7 (List.mem_of_getElem? (i := 195) rfl), zsub_1 (List.mem_of_getElem? (i := 12) rfl), zdp_16, rfl, zmh_13, plainFor_of_name zpn_13, (fun h => nomatch h), (fun _ => ⟨zsub_7 (List.mem_of_getElem? (i := 194) rfl), Or.inr (zsub_0 (List.mem_of_getElem? (i := 76) rfl))⟩)⟩
noncomputable abbrev zmd_278 : zMd := (⟨"RaysOfShapesModel", "deepBy", "(III)I"⟩, prog_14_method_67_code, 4, some .int, false, 3, 13)
set_option maxRecDepth 100000 in
theorem zmo_278 : zmOK zmd_278 := ⟨zsub_7 (List.mem_of_getElem? (i := 219) rfl), zsub_1 (List.mem_of_getElem? (i := 12) rfl), zdp_44, rfl, zmh_13, plainFor_of_name zpn_13, (fun h => nomatch h), (fun _ => ⟨zsub_7 (List.mem_of_getElem? (i := 218) rfl), Or.inr (zsub_0 (List.mem_of_getElem? (i := 78) rfl))⟩)⟩
noncomputable abbrev zmd_279 : zMd := (⟨"RaysOfShapesModel", "blendsBy", "(III)I"⟩, prog_14_method_68_code, 5, some .int, false, 3, 13)
set_option maxRecDepth 100000 in
theorem zmo_279 : zmOK zmd_279 := ⟨zsub_7 (List.mem_of_getElem? (i := 223) rfl), zsub_1 (List.mem_of_getElem? (i := 12) rfl), zdp_44, rfl, zmh_13, plainFor_of_name zpn_13, (fun h => nomatch h), (fun _ => ⟨zsub_7 (List.mem_of_getElem? (i := 222) rfl), Or.inr (zsub_0 (List.mem_of_getElem? (i := 79) rfl))⟩)⟩
noncomputable abbrev zmd_280 : zMd := (⟨"RaysOfShapesModel", "isTooDeep", "(III)Z"⟩, prog_14_method_69_code, 4, some .boolean, false, 3, 13)
set_option maxRecDepth 100000 in
theorem zmo_280 : zmOK zmd_280 := ⟨zsub_7 (List.mem_of_getElem? (i := 215) rfl), zsub_1 (List.mem_of_getElem? (i := 12) rfl), zdp_43, rfl, zmh_13, plainFor_of_name zpn_13, (fun h => nomatch h), (fun _ => ⟨zsub_7 (List.mem_of_getElem? (i := 214) rfl), Or.inr (zsub_0 (List.mem_of_getElem? (i := 77) rfl))⟩)⟩
noncomputable abbrev zmd_281 : zMd := (⟨"RaysOfShapesModel", "comes", "(IIIII[II)I"⟩, prog_14_method_70_code, 11, some .int, false, 7, 13)
set_option maxRecDepth 100000 in
theorem zmo_281 : zmOK zmd_281 := ⟨zsub_7 (List.mem_of_getElem? (i := 227) rfl), zsub_1 (List.mem_of_getElem? (i := 12) rfl), zdp_70, rfl, zmh_13, plainFor_of_name zpn_13, (fun h => nomatch h), (fun _ => ⟨zsub_7 (List.mem_of_getElem? (i := 226) rfl), Or.inr (zsub_0 (List.mem_of_getElem? (i := 80) rfl))⟩)⟩
noncomputable abbrev zmd_282 : zMd := (⟨"RaysOfShapesModel", "made", "(III)I"⟩, prog_14_method_71_code, 4, some .int, false, 3, 13)
set_option maxRecDepth 100000 in
theorem zmo_282 : zmOK zmd_282 := ⟨zsub_7 (List.mem_of_getElem? (i := 191) rfl), zsub_1 (List.mem_of_getElem? (i := 12) rfl), zdp_44, rfl, zmh_13, plainFor_of_name zpn_13, (fun h => nomatch h), (fun _ => ⟨zsub_7 (List.mem_of_getElem? (i := 190) rfl), Or.inr (zsub_0 (List.mem_of_getElem? (i := 75) rfl))⟩)⟩
noncomputable abbrev zmd_283 : zMd := (⟨"RaysOfShapesModel", "tells", "(IIII)V"⟩, prog_14_method_72_code, 5, none, false, 4, 13)
set_option maxRecDepth 100000 in
theorem zmo_283 : zmOK zmd_283 := ⟨zsub_7 (List.mem_of_getElem? (i := 187) rfl), zsub_1 (List.mem_of_getElem? (i := 12) rfl), zdp_26, rfl, zmh_13, plainFor_of_name zpn_13, (fun h => nomatch h), (fun _ => ⟨zsub_7 (List.mem_of_getElem? (i := 186) rfl), Or.inr (zsub_0 (List.mem_of_getElem? (i := 74) rfl))⟩)⟩
noncomputable abbrev zmd_284 : zMd := (⟨"RaysOfShapesModel", "ball", "(IIII)I"⟩, prog_14_method_73_code, 5, some .int, false, 4, 13)
set_option maxRecDepth 100000 in
theorem zmo_284 : zmOK zmd_284 := ⟨zsub_7 (List.mem_of_getElem? (i := 183) rfl), zsub_1 (List.mem_of_getElem? (i := 12) rfl), zdp_51, rfl, zmh_13, plainFor_of_name zpn_13, (fun h => nomatch h), (fun _ => ⟨zsub_7 (List.mem_of_getElem? (i := 181) rfl), Or.inr (zsub_7 (List.mem_of_getElem? (i := 182) rfl))⟩)⟩
noncomputable abbrev zmd_285 : zMd := (⟨"RaysOfShapesModel", "box", "(IIIIII)I"⟩, prog_14_method_74_code, 7, some .int, false, 6, 13)
set_option maxRecDepth 100000 in
theorem zmo_285 : zmOK zmd_285 := ⟨zsub_7 (List.mem_of_getElem? (i := 231) rfl), zsub_1 (List.mem_of_getElem? (i := 12) rfl), zdp_52, rfl, zmh_13, plainFor_of_name zpn_13, (fun h => nomatch h), (fun _ => ⟨zsub_7 (List.mem_of_getElem? (i := 229) rfl), Or.inr (zsub_7 (List.mem_of_getElem? (i := 230) rfl))⟩)⟩
noncomputable abbrev zmd_286 : zMd := (⟨"RaysOfShapesModel", "half", "(IIII)I"⟩, prog_14_method_75_code, 5, some .int, false, 4, 13)
set_option maxRecDepth 100000 in
theorem zmo_286 : zmOK zmd_286 := ⟨zsub_7 (List.mem_of_getElem? (i := 235) rfl), zsub_1 (List.mem_of_getElem? (i := 12) rfl), zdp_51, rfl, zmh_13, plainFor_of_name zpn_13, (fun h => nomatch h), (fun _ => ⟨zsub_7 (List.mem_of_getElem? (i := 233) rfl), Or.inr (zsub_7 (List.mem_of_getElem? (i := 234) rfl))⟩)⟩
noncomputable abbrev zmd_287 : zMd := (⟨"RaysOfShapesModel", "pair", "(III)I"⟩, prog_14_method_76_code, 4, some .int, false, 3, 13)
set_option maxRecDepth 100000 in
theorem zmo_287 : zmOK zmd_287 := ⟨zsub_7 (List.mem_of_getElem? (i := 239) rfl), zsub_1 (List.mem_of_getElem? (i := 12) rfl), zdp_44, rfl, zmh_13, plainFor_of_name zpn_13, (fun h => nomatch h), (fun _ => ⟨zsub_7 (List.mem_of_getElem? (i := 237) rfl), Or.inr (zsub_7 (List.mem_of_getElem? (i := 238) rfl))⟩)⟩
noncomputable abbrev zmd_288 : zMd := (⟨"RaysOfShapesModel", "blend", "(IIII)I"⟩, prog_14_method_77_code, 5, some .int, false, 4, 13)
set_option maxRecDepth 100000 in
theorem zmo_288 : zmOK zmd_288 := ⟨zsub_8 (List.mem_of_getElem? (i := 5) rfl), zsub_1 (List.mem_of_getElem? (i := 12) rfl), zdp_51, rfl, zmh_13, plainFor_of_name zpn_13, (fun h => nomatch h), (fun _ => ⟨zsub_8 (List.mem_of_getElem? (i := 3) rfl), Or.inr (zsub_8 (List.mem_of_getElem? (i := 4) rfl))⟩)⟩
noncomputable abbrev zmd_289 : zMd := (⟨"RaysOfShapesModel", "shift", "(IIII)I"⟩, prog_14_method_78_code, 5, some .int, false, 4, 13)
set_option maxRecDepth 100000 in
theorem zmo_289 : zmOK zmd_289 := ⟨zsub_8 (List.mem_of_getElem? (i := 9) rfl), zsub_1 (List.mem_of_getElem? (i := 12) rfl), zdp_51, rfl, zmh_13, plainFor_of_name zpn_13, (fun h => nomatch h), (fun _ => ⟨zsub_8 (List.mem_of_getElem? (i := 7) rfl), Or.inr (zsub_8 (List.mem_of_getElem? (i := 8) rfl))⟩)⟩
noncomputable abbrev zmd_290 : zMd := (⟨"RaysOfShapesModel", "change", "(IIII)I"⟩, prog_14_method_79_code, 5, some .int, false, 4, 13)
set_option maxRecDepth 100000 in
theorem zmo_290 : zmOK zmd_290 := ⟨zsub_8 (List.mem_of_getElem? (i := 13) rfl), zsub_1 (List.mem_of_getElem? (i := 12) rfl), zdp_51, rfl, zmh_13, plainFor_of_name zpn_13, (fun h => nomatch h), (fun _ => ⟨zsub_8 (List.mem_of_getElem? (i := 11) rfl), Or.inr (zsub_8 (List.mem_of_getElem? (i := 12) rfl))⟩)⟩
noncomputable abbrev zmd_291 : zMd := (⟨"RaysOfShapesModel", "grown", "(IIII)I"⟩, prog_14_method_80_code, 5, some .int, false, 4, 13)
set_option maxRecDepth 100000 in
theorem zmo_291 : zmOK zmd_291 := ⟨zsub_8 (List.mem_of_getElem? (i := 18) rfl), zsub_1 (List.mem_of_getElem? (i := 12) rfl), zdp_51, rfl, zmh_13, plainFor_of_name zpn_13, (fun h => nomatch h), (fun _ => ⟨zsub_8 (List.mem_of_getElem? (i := 16) rfl), Or.inr (zsub_8 (List.mem_of_getElem? (i := 17) rfl))⟩)⟩
noncomputable abbrev zmd_292 : zMd := (⟨"RaysOfShapesModel", "looseShelves", "()V"⟩, prog_14_method_81_code, 2, none, false, 0, 13)
set_option maxRecDepth 100000 in
theorem zmo_292 : zmOK zmd_292 := ⟨zsub_8 (List.mem_of_getElem? (i := 27) rfl), zsub_1 (List.mem_of_getElem? (i := 12) rfl), zdp_0, rfl, zmh_13, plainFor_of_name zpn_13, (fun h => nomatch h), (fun _ => ⟨zsub_8 (List.mem_of_getElem? (i := 26) rfl), Or.inr (zsub_0 (List.mem_of_getElem? (i := 81) rfl))⟩)⟩
noncomputable abbrev zmd_293 : zMd := (⟨"RaysOfShapesModel", "drop", "()I"⟩, prog_14_method_82_code, 1, some .int, false, 0, 13)
set_option maxRecDepth 100000 in
theorem zmo_293 : zmOK zmd_293 := ⟨zsub_8 (List.mem_of_getElem? (i := 23) rfl), zsub_1 (List.mem_of_getElem? (i := 12) rfl), zdp_2, rfl, zmh_13, plainFor_of_name zpn_13, (fun h => nomatch h), (fun _ => ⟨zsub_8 (List.mem_of_getElem? (i := 21) rfl), Or.inr (zsub_8 (List.mem_of_getElem? (i := 22) rfl))⟩)⟩
noncomputable abbrev zmd_294 : zMd := (⟨"RaysOfShapesModel", "solids", "(I)I"⟩, prog_14_method_83_code, 2, some .int, false, 1, 13)
set_option maxRecDepth 100000 in
theorem zmo_294 : zmOK zmd_294 := ⟨zsub_8 (List.mem_of_getElem? (i := 35) rfl), zsub_1 (List.mem_of_getElem? (i := 12) rfl), zdp_4, rfl, zmh_13, plainFor_of_name zpn_13, (fun h => nomatch h), (fun _ => ⟨zsub_8 (List.mem_of_getElem? (i := 34) rfl), Or.inr (zsub_0 (List.mem_of_getElem? (i := 82) rfl))⟩)⟩
noncomputable abbrev zmd_295 : zMd := (⟨"RaysOfShapesModel", "shapeOf", "(II)I"⟩, prog_14_method_84_code, 3, some .int, false, 2, 13)
set_option maxRecDepth 100000 in
theorem zmo_295 : zmOK zmd_295 := ⟨zsub_8 (List.mem_of_getElem? (i := 31) rfl), zsub_1 (List.mem_of_getElem? (i := 12) rfl), zdp_30, rfl, zmh_13, plainFor_of_name zpn_13, (fun h => nomatch h), (fun _ => ⟨zsub_8 (List.mem_of_getElem? (i := 29) rfl), Or.inr (zsub_8 (List.mem_of_getElem? (i := 30) rfl))⟩)⟩
noncomputable abbrev zmd_296 : zMd := (⟨"RaysOfShapesModel", "feed", "(I)I"⟩, prog_14_method_85_code, 2, some .int, false, 1, 13)
set_option maxRecDepth 100000 in
theorem zmo_296 : zmOK zmd_296 := ⟨zsub_8 (List.mem_of_getElem? (i := 39) rfl), zsub_1 (List.mem_of_getElem? (i := 12) rfl), zdp_4, rfl, zmh_13, plainFor_of_name zpn_13, (fun h => nomatch h), (fun _ => ⟨zsub_8 (List.mem_of_getElem? (i := 37) rfl), Or.inr (zsub_8 (List.mem_of_getElem? (i := 38) rfl))⟩)⟩
noncomputable abbrev zmd_297 : zMd := (⟨"RaysOfShapesModel", "wipe", "()I"⟩, prog_14_method_86_code, 2, some .int, false, 0, 13)
set_option maxRecDepth 100000 in
theorem zmo_297 : zmOK zmd_297 := ⟨zsub_8 (List.mem_of_getElem? (i := 44) rfl), zsub_1 (List.mem_of_getElem? (i := 12) rfl), zdp_2, rfl, zmh_13, plainFor_of_name zpn_13, (fun h => nomatch h), (fun _ => ⟨zsub_8 (List.mem_of_getElem? (i := 42) rfl), Or.inr (zsub_8 (List.mem_of_getElem? (i := 43) rfl))⟩)⟩
noncomputable abbrev zmd_298 : zMd := (⟨"RaysOfShapesModel", "byteAt", "(I)I"⟩, prog_14_method_87_code, 2, some .int, false, 1, 13)
set_option maxRecDepth 100000 in
theorem zmo_298 : zmOK zmd_298 := ⟨zsub_8 (List.mem_of_getElem? (i := 56) rfl), zsub_1 (List.mem_of_getElem? (i := 12) rfl), zdp_4, rfl, zmh_13, plainFor_of_name zpn_13, (fun h => nomatch h), (fun _ => ⟨zsub_8 (List.mem_of_getElem? (i := 55) rfl), Or.inr (zsub_0 (List.mem_of_getElem? (i := 84) rfl))⟩)⟩
noncomputable abbrev zmd_299 : zMd := (⟨"RaysOfShapesModel", "wordOf", "(II)I"⟩, prog_14_method_88_code, 6, some .int, false, 2, 13)
set_option maxRecDepth 100000 in
theorem zmo_299 : zmOK zmd_299 := ⟨zsub_8 (List.mem_of_getElem? (i := 62) rfl), zsub_1 (List.mem_of_getElem? (i := 12) rfl), zdp_30, rfl, zmh_13, plainFor_of_name zpn_13, (fun h => nomatch h), (fun _ => ⟨zsub_8 (List.mem_of_getElem? (i := 61) rfl), Or.inr (zsub_0 (List.mem_of_getElem? (i := 85) rfl))⟩)⟩
noncomputable abbrev zmd_300 : zMd := (⟨"RaysOfShapesModel", "next", "()V"⟩, prog_14_method_89_code, 2, none, false, 0, 13)
set_option maxRecDepth 100000 in
theorem zmo_300 : zmOK zmd_300 := ⟨zsub_8 (List.mem_of_getElem? (i := 52) rfl), zsub_1 (List.mem_of_getElem? (i := 12) rfl), zdp_0, rfl, zmh_13, plainFor_of_name zpn_13, (fun h => nomatch h), (fun _ => ⟨zsub_8 (List.mem_of_getElem? (i := 51) rfl), Or.inr (zsub_0 (List.mem_of_getElem? (i := 83) rfl))⟩)⟩
noncomputable abbrev zmd_301 : zMd := (⟨"RaysOfShapesModel", "isSign", "(I)Z"⟩, prog_14_method_90_code, 2, some .boolean, false, 1, 13)
set_option maxRecDepth 100000 in
theorem zmo_301 : zmOK zmd_301 := ⟨zsub_8 (List.mem_of_getElem? (i := 82) rfl), zsub_1 (List.mem_of_getElem? (i := 12) rfl), zdp_16, rfl, zmh_13, plainFor_of_name zpn_13, (fun h => nomatch h), (fun _ => ⟨zsub_8 (List.mem_of_getElem? (i := 81) rfl), Or.inr (zsub_0 (List.mem_of_getElem? (i := 88) rfl))⟩)⟩
noncomputable abbrev zmd_302 : zMd := (⟨"RaysOfShapesModel", "isBelow", "(II)Z"⟩, prog_14_method_91_code, 2, some .boolean, true, 2, 13)
set_option maxRecDepth 100000 in
theorem zmo_302 : zmOK zmd_302 := ⟨zsub_8 (List.mem_of_getElem? (i := 78) rfl), zsub_1 (List.mem_of_getElem? (i := 12) rfl), zdp_15, rfl, zmh_13, plainFor_of_name zpn_13, (fun _ => zsub_8 (List.mem_of_getElem? (i := 77) rfl)), (fun h => nomatch h)⟩
noncomputable abbrev zmd_303 : zMd := (⟨"RaysOfShapesModel", "areRead", "(II)Z"⟩, prog_14_method_92_code, 7, some .boolean, false, 2, 13)
set_option maxRecDepth 100000 in
theorem zmo_303 : zmOK zmd_303 := ⟨zsub_8 (List.mem_of_getElem? (i := 75) rfl), zsub_1 (List.mem_of_getElem? (i := 12) rfl), zdp_15, rfl, zmh_13, plainFor_of_name zpn_13, (fun h => nomatch h), (fun _ => ⟨zsub_8 (List.mem_of_getElem? (i := 74) rfl), Or.inr (zsub_0 (List.mem_of_getElem? (i := 87) rfl))⟩)⟩
noncomputable abbrev zmd_304 : zMd := (⟨"RaysOfShapesModel", "shapeRead", "(I)I"⟩, prog_14_method_93_code, 11, some .int, false, 1, 13)
set_option maxRecDepth 100000 in
theorem zmo_304 : zmOK zmd_304 := ⟨zsub_8 (List.mem_of_getElem? (i := 71) rfl), zsub_1 (List.mem_of_getElem? (i := 12) rfl), zdp_4, rfl, zmh_13, plainFor_of_name zpn_13, (fun h => nomatch h), (fun _ => ⟨zsub_8 (List.mem_of_getElem? (i := 70) rfl), Or.inr (zsub_0 (List.mem_of_getElem? (i := 86) rfl))⟩)⟩
noncomputable abbrev zmd_305 : zMd := (⟨"RaysOfShapesModel", "isClosed", "()Z"⟩, prog_14_method_94_code, 1, some .boolean, false, 0, 13)
set_option maxRecDepth 100000 in
theorem zmo_305 : zmOK zmd_305 := ⟨zsub_8 (List.mem_of_getElem? (i := 86) rfl), zsub_1 (List.mem_of_getElem? (i := 12) rfl), zdp_8, rfl, zmh_13, plainFor_of_name zpn_13, (fun h => nomatch h), (fun _ => ⟨zsub_8 (List.mem_of_getElem? (i := 85) rfl), Or.inr (zsub_0 (List.mem_of_getElem? (i := 89) rfl))⟩)⟩
noncomputable abbrev zmd_306 : zMd := (⟨"RaysOfShapesModel", "shape", "()I"⟩, prog_14_method_95_code, 7, some .int, false, 0, 13)
set_option maxRecDepth 100000 in
theorem zmo_306 : zmOK zmd_306 := ⟨zsub_8 (List.mem_of_getElem? (i := 48) rfl), zsub_1 (List.mem_of_getElem? (i := 12) rfl), zdp_2, rfl, zmh_13, plainFor_of_name zpn_13, (fun h => nomatch h), (fun _ => ⟨zsub_8 (List.mem_of_getElem? (i := 46) rfl), Or.inr (zsub_8 (List.mem_of_getElem? (i := 47) rfl))⟩)⟩
noncomputable abbrev zmd_307 : zMd := (⟨"RaysOfShapesModel", "isShelf", "(I)Z"⟩, prog_14_method_96_code, 1, some .boolean, true, 1, 13)
set_option maxRecDepth 100000 in
theorem zmo_307 : zmOK zmd_307 := ⟨zsub_8 (List.mem_of_getElem? (i := 93) rfl), zsub_1 (List.mem_of_getElem? (i := 12) rfl), zdp_16, rfl, zmh_13, plainFor_of_name zpn_13, (fun _ => zsub_8 (List.mem_of_getElem? (i := 92) rfl)), (fun h => nomatch h)⟩
noncomputable abbrev zmd_308 : zMd := (⟨"RaysOfShapesModel", "row", "(III)I"⟩, prog_14_method_97_code, 5, some .int, false, 3, 13)
set_option maxRecDepth 100000 in
theorem zmo_308 : zmOK zmd_308 := ⟨zsub_8 (List.mem_of_getElem? (i := 90) rfl), zsub_1 (List.mem_of_getElem? (i := 12) rfl), zdp_44, rfl, zmh_13, plainFor_of_name zpn_13, (fun h => nomatch h), (fun _ => ⟨zsub_8 (List.mem_of_getElem? (i := 88) rfl), Or.inr (zsub_8 (List.mem_of_getElem? (i := 89) rfl))⟩)⟩
noncomputable abbrev zmd_309 : zMd := (⟨"RaysOfShapesModel", "lowest", "(IJ)J"⟩, prog_14_method_98_code, 3, some .long, true, 2, 13)
set_option maxRecDepth 100000 in
theorem zmo_309 : zmOK zmd_309 := ⟨zsub_8 (List.mem_of_getElem? (i := 101) rfl), zsub_1 (List.mem_of_getElem? (i := 12) rfl), zdp_38, rfl, zmh_13, plainFor_of_name zpn_13, (fun _ => zsub_8 (List.mem_of_getElem? (i := 100) rfl)), (fun h => nomatch h)⟩
noncomputable abbrev zmd_310 : zMd := (⟨"RaysOfShapesModel", "set", "(IIJ)I"⟩, prog_14_method_99_code, 5, some .int, false, 3, 13)
set_option maxRecDepth 100000 in
theorem zmo_310 : zmOK zmd_310 := ⟨zsub_8 (List.mem_of_getElem? (i := 98) rfl), zsub_1 (List.mem_of_getElem? (i := 12) rfl), zdp_49, rfl, zmh_13, plainFor_of_name zpn_13, (fun h => nomatch h), (fun _ => ⟨zsub_8 (List.mem_of_getElem? (i := 96) rfl), Or.inr (zsub_8 (List.mem_of_getElem? (i := 97) rfl))⟩)⟩
noncomputable abbrev zmd_311 : zMd := (⟨"RaysOfShapesModel", "copy", "(IIIII)I"⟩, prog_14_method_100_code, 8, some .int, false, 5, 13)
set_option maxRecDepth 100000 in
theorem zmo_311 : zmOK zmd_311 := ⟨zsub_8 (List.mem_of_getElem? (i := 105) rfl), zsub_1 (List.mem_of_getElem? (i := 12) rfl), zdp_50, rfl, zmh_13, plainFor_of_name zpn_13, (fun h => nomatch h), (fun _ => ⟨zsub_8 (List.mem_of_getElem? (i := 103) rfl), Or.inr (zsub_8 (List.mem_of_getElem? (i := 104) rfl))⟩)⟩
noncomputable abbrev zmd_312 : zMd := (⟨"RaysOfShapesModel", "element", "(II)J"⟩, prog_14_method_101_code, 3, some .long, false, 2, 13)
set_option maxRecDepth 100000 in
theorem zmo_312 : zmOK zmd_312 := ⟨zsub_8 (List.mem_of_getElem? (i := 109) rfl), zsub_1 (List.mem_of_getElem? (i := 12) rfl), zdp_36, rfl, zmh_13, plainFor_of_name zpn_13, (fun h => nomatch h), (fun _ => ⟨zsub_8 (List.mem_of_getElem? (i := 107) rfl), Or.inr (zsub_8 (List.mem_of_getElem? (i := 108) rfl))⟩)⟩
noncomputable abbrev zmd_313 : zMd := (⟨"RaysOfShapesModel", "holds", "(I)I"⟩, prog_14_method_102_code, 2, some .int, false, 1, 13)
set_option maxRecDepth 100000 in
theorem zmo_313 : zmOK zmd_313 := ⟨zsub_8 (List.mem_of_getElem? (i := 113) rfl), zsub_1 (List.mem_of_getElem? (i := 12) rfl), zdp_4, rfl, zmh_13, plainFor_of_name zpn_13, (fun h => nomatch h), (fun _ => ⟨zsub_8 (List.mem_of_getElem? (i := 111) rfl), Or.inr (zsub_8 (List.mem_of_getElem? (i := 112) rfl))⟩)⟩
noncomputable abbrev zmd_314 : zMd := (⟨"RaysOfShapesModel", "show", "(II)I"⟩, prog_14_method_103_code, 3, some .int, false, 2, 13)
set_option maxRecDepth 100000 in
theorem zmo_314 : zmOK zmd_314 := ⟨zsub_8 (List.mem_of_getElem? (i := 117) rfl), zsub_1 (List.mem_of_getElem? (i := 12) rfl), zdp_30, rfl, zmh_13, plainFor_of_name zpn_13, (fun h => nomatch h), (fun _ => ⟨zsub_8 (List.mem_of_getElem? (i := 115) rfl), Or.inr (zsub_8 (List.mem_of_getElem? (i := 116) rfl))⟩)⟩
noncomputable abbrev zmd_315 : zMd := (⟨"RaysOfShapesModel", "isUnder", "(II)Z"⟩, prog_14_method_104_code, 2, some .boolean, true, 2, 13)
set_option maxRecDepth 100000 in
theorem zmo_315 : zmOK zmd_315 := ⟨zsub_8 (List.mem_of_getElem? (i := 124) rfl), zsub_1 (List.mem_of_getElem? (i := 12) rfl), zdp_15, rfl, zmh_13, plainFor_of_name zpn_13, (fun _ => zsub_8 (List.mem_of_getElem? (i := 123) rfl)), (fun h => nomatch h)⟩
noncomputable abbrev zmd_316 : zMd := (⟨"RaysOfShapesModel", "wholePlaces", "(I)I"⟩, prog_14_method_105_code, 4, some .int, false, 1, 13)
set_option maxRecDepth 100000 in
theorem zmo_316 : zmOK zmd_316 := ⟨zsub_8 (List.mem_of_getElem? (i := 133) rfl), zsub_1 (List.mem_of_getElem? (i := 12) rfl), zdp_4, rfl, zmh_13, plainFor_of_name zpn_13, (fun h => nomatch h), (fun _ => ⟨zsub_8 (List.mem_of_getElem? (i := 132) rfl), Or.inr (zsub_0 (List.mem_of_getElem? (i := 91) rfl))⟩)⟩
noncomputable abbrev zmd_317 : zMd := (⟨"RaysOfShapesModel", "says", "(II)I"⟩, prog_14_method_106_code, 4, some .int, false, 2, 13)
set_option maxRecDepth 100000 in
theorem zmo_317 : zmOK zmd_317 := ⟨zsub_8 (List.mem_of_getElem? (i := 121) rfl), zsub_1 (List.mem_of_getElem? (i := 12) rfl), zdp_30, rfl, zmh_13, plainFor_of_name zpn_13, (fun h => nomatch h), (fun _ => ⟨zsub_8 (List.mem_of_getElem? (i := 119) rfl), Or.inr (zsub_8 (List.mem_of_getElem? (i := 120) rfl))⟩)⟩
noncomputable abbrev zmd_318 : zMd := (⟨"RaysOfShapesModel", "saysOf", "(II)I"⟩, prog_14_method_107_code, 5, some .int, false, 2, 13)
set_option maxRecDepth 100000 in
theorem zmo_318 : zmOK zmd_318 := ⟨zsub_8 (List.mem_of_getElem? (i := 129) rfl), zsub_1 (List.mem_of_getElem? (i := 12) rfl), zdp_30, rfl, zmh_13, plainFor_of_name zpn_13, (fun h => nomatch h), (fun _ => ⟨zsub_8 (List.mem_of_getElem? (i := 128) rfl), Or.inr (zsub_0 (List.mem_of_getElem? (i := 90) rfl))⟩)⟩
noncomputable abbrev zmd_319 : zMd := (⟨"RaysOfShapesModel", "isTold", "(II)I"⟩, prog_14_method_108_code, 4, some .int, false, 2, 13)
set_option maxRecDepth 100000 in
theorem zmo_319 : zmOK zmd_319 := ⟨zsub_8 (List.mem_of_getElem? (i := 142) rfl), zsub_1 (List.mem_of_getElem? (i := 12) rfl), zdp_30, rfl, zmh_13, plainFor_of_name zpn_13, (fun h => nomatch h), (fun _ => ⟨zsub_8 (List.mem_of_getElem? (i := 141) rfl), Or.inr (zsub_0 (List.mem_of_getElem? (i := 92) rfl))⟩)⟩
noncomputable abbrev zmd_320 : zMd := (⟨"RaysOfShapesModel", "isPaired", "(IIII)Z"⟩, prog_14_method_109_code, 9, some .boolean, false, 4, 13)
set_option maxRecDepth 100000 in
theorem zmo_320 : zmOK zmd_320 := ⟨zsub_8 (List.mem_of_getElem? (i := 146) rfl), zsub_1 (List.mem_of_getElem? (i := 12) rfl), zdp_57, rfl, zmh_13, plainFor_of_name zpn_13, (fun h => nomatch h), (fun _ => ⟨zsub_8 (List.mem_of_getElem? (i := 145) rfl), Or.inr (zsub_0 (List.mem_of_getElem? (i := 93) rfl))⟩)⟩
noncomputable abbrev zmd_321 : zMd := (⟨"RaysOfShapesModel", "kinds", "(IIII)I"⟩, prog_14_method_110_code, 10, some .int, false, 4, 13)
set_option maxRecDepth 100000 in
theorem zmo_321 : zmOK zmd_321 := ⟨zsub_8 (List.mem_of_getElem? (i := 137) rfl), zsub_1 (List.mem_of_getElem? (i := 12) rfl), zdp_51, rfl, zmh_13, plainFor_of_name zpn_13, (fun h => nomatch h), (fun _ => ⟨zsub_8 (List.mem_of_getElem? (i := 135) rfl), Or.inr (zsub_8 (List.mem_of_getElem? (i := 136) rfl))⟩)⟩
noncomputable abbrev zmd_322 : zMd := (⟨"RaysOfShapesModel", "judge", "(III)I"⟩, prog_14_method_111_code, 6, some .int, false, 3, 13)
set_option maxRecDepth 100000 in
theorem zmo_322 : zmOK zmd_322 := ⟨zsub_8 (List.mem_of_getElem? (i := 150) rfl), zsub_1 (List.mem_of_getElem? (i := 12) rfl), zdp_44, rfl, zmh_13, plainFor_of_name zpn_13, (fun h => nomatch h), (fun _ => ⟨zsub_8 (List.mem_of_getElem? (i := 148) rfl), Or.inr (zsub_8 (List.mem_of_getElem? (i := 149) rfl))⟩)⟩
noncomputable abbrev zmd_323 : zMd := (⟨"RaysOfShapesModel", "carves", "(I)I"⟩, prog_14_method_112_code, 6, some .int, false, 1, 13)
set_option maxRecDepth 100000 in
theorem zmo_323 : zmOK zmd_323 := ⟨zsub_8 (List.mem_of_getElem? (i := 158) rfl), zsub_1 (List.mem_of_getElem? (i := 12) rfl), zdp_4, rfl, zmh_13, plainFor_of_name zpn_13, (fun h => nomatch h), (fun _ => ⟨zsub_8 (List.mem_of_getElem? (i := 157) rfl), Or.inr (zsub_0 (List.mem_of_getElem? (i := 94) rfl))⟩)⟩
noncomputable abbrev zmd_324 : zMd := (⟨"RaysOfShapesModel", "carve", "(II)I"⟩, prog_14_method_113_code, 4, some .int, false, 2, 13)
set_option maxRecDepth 100000 in
theorem zmo_324 : zmOK zmd_324 := ⟨zsub_8 (List.mem_of_getElem? (i := 154) rfl), zsub_1 (List.mem_of_getElem? (i := 12) rfl), zdp_30, rfl, zmh_13, plainFor_of_name zpn_13, (fun h => nomatch h), (fun _ => ⟨zsub_8 (List.mem_of_getElem? (i := 152) rfl), Or.inr (zsub_8 (List.mem_of_getElem? (i := 153) rfl))⟩)⟩
noncomputable abbrev zmd_325 : zMd := (⟨"RaysOfShapesModel", "undo", "()I"⟩, prog_14_method_114_code, 2, some .int, false, 0, 13)
set_option maxRecDepth 100000 in
theorem zmo_325 : zmOK zmd_325 := ⟨zsub_8 (List.mem_of_getElem? (i := 162) rfl), zsub_1 (List.mem_of_getElem? (i := 12) rfl), zdp_2, rfl, zmh_13, plainFor_of_name zpn_13, (fun h => nomatch h), (fun _ => ⟨zsub_8 (List.mem_of_getElem? (i := 160) rfl), Or.inr (zsub_8 (List.mem_of_getElem? (i := 161) rfl))⟩)⟩
noncomputable abbrev zmd_326 : zMd := (⟨"RaysOfShapesModel", "blockMany", "()I"⟩, prog_14_method_115_code, 3, some .int, false, 0, 13)
set_option maxRecDepth 100000 in
theorem zmo_326 : zmOK zmd_326 := ⟨zsub_8 (List.mem_of_getElem? (i := 170) rfl), zsub_1 (List.mem_of_getElem? (i := 12) rfl), zdp_2, rfl, zmh_13, plainFor_of_name zpn_13, (fun h => nomatch h), (fun _ => ⟨zsub_8 (List.mem_of_getElem? (i := 169) rfl), Or.inr (zsub_0 (List.mem_of_getElem? (i := 95) rfl))⟩)⟩
noncomputable abbrev zmd_327 : zMd := (⟨"RaysOfShapesModel", "block", "(I)I"⟩, prog_14_method_116_code, 3, some .int, false, 1, 13)
set_option maxRecDepth 100000 in
theorem zmo_327 : zmOK zmd_327 := ⟨zsub_8 (List.mem_of_getElem? (i := 166) rfl), zsub_1 (List.mem_of_getElem? (i := 12) rfl), zdp_4, rfl, zmh_13, plainFor_of_name zpn_13, (fun h => nomatch h), (fun _ => ⟨zsub_8 (List.mem_of_getElem? (i := 164) rfl), Or.inr (zsub_8 (List.mem_of_getElem? (i := 165) rfl))⟩)⟩
noncomputable abbrev zmd_328 : zMd := (⟨"RaysOfShapesModel", "has", "(I)I"⟩, prog_14_method_117_code, 2, some .int, false, 1, 13)
set_option maxRecDepth 100000 in
theorem zmo_328 : zmOK zmd_328 := ⟨zsub_8 (List.mem_of_getElem? (i := 174) rfl), zsub_1 (List.mem_of_getElem? (i := 12) rfl), zdp_4, rfl, zmh_13, plainFor_of_name zpn_13, (fun h => nomatch h), (fun _ => ⟨zsub_8 (List.mem_of_getElem? (i := 172) rfl), Or.inr (zsub_8 (List.mem_of_getElem? (i := 173) rfl))⟩)⟩
noncomputable abbrev zmd_329 : zMd := (⟨"RaysOfShapesModel", "off", "(I)I"⟩, prog_14_method_118_code, 4, some .int, false, 1, 13)
set_option maxRecDepth 100000 in
theorem zmo_329 : zmOK zmd_329 := ⟨zsub_8 (List.mem_of_getElem? (i := 178) rfl), zsub_1 (List.mem_of_getElem? (i := 12) rfl), zdp_4, rfl, zmh_13, plainFor_of_name zpn_13, (fun h => nomatch h), (fun _ => ⟨zsub_8 (List.mem_of_getElem? (i := 176) rfl), Or.inr (zsub_8 (List.mem_of_getElem? (i := 177) rfl))⟩)⟩
noncomputable abbrev zmd_330 : zMd := (⟨"RaysOfShapesModel", "draw", "(I)I"⟩, prog_14_method_119_code, 2, some .int, false, 1, 13)
set_option maxRecDepth 100000 in
theorem zmo_330 : zmOK zmd_330 := ⟨zsub_8 (List.mem_of_getElem? (i := 187) rfl), zsub_1 (List.mem_of_getElem? (i := 12) rfl), zdp_4, rfl, zmh_13, plainFor_of_name zpn_13, (fun h => nomatch h), (fun _ => ⟨zsub_8 (List.mem_of_getElem? (i := 186) rfl), Or.inr (zsub_0 (List.mem_of_getElem? (i := 96) rfl))⟩)⟩
noncomputable abbrev zmd_331 : zMd := (⟨"RaysOfShapesModel", "days", "(I)I"⟩, prog_14_method_120_code, 11, some .int, false, 1, 13)
set_option maxRecDepth 100000 in
theorem zmo_331 : zmOK zmd_331 := ⟨zsub_8 (List.mem_of_getElem? (i := 182) rfl), zsub_1 (List.mem_of_getElem? (i := 12) rfl), zdp_4, rfl, zmh_13, plainFor_of_name zpn_13, (fun h => nomatch h), (fun _ => ⟨zsub_8 (List.mem_of_getElem? (i := 180) rfl), Or.inr (zsub_8 (List.mem_of_getElem? (i := 181) rfl))⟩)⟩
noncomputable abbrev zmd_332 : zMd := (⟨"RaysOfShapesModel", "seed", "(I)I"⟩, prog_14_method_121_code, 3, some .int, false, 1, 13)
set_option maxRecDepth 100000 in
theorem zmo_332 : zmOK zmd_332 := ⟨zsub_8 (List.mem_of_getElem? (i := 192) rfl), zsub_1 (List.mem_of_getElem? (i := 12) rfl), zdp_4, rfl, zmh_13, plainFor_of_name zpn_13, (fun h => nomatch h), (fun _ => ⟨zsub_8 (List.mem_of_getElem? (i := 190) rfl), Or.inr (zsub_8 (List.mem_of_getElem? (i := 191) rfl))⟩)⟩
noncomputable abbrev zmd_333 : zMd := (⟨"RaysOfShapesModel", "copies", "([Z[Z)V"⟩, prog_14_method_122_code, 3, none, true, 2, 13)
set_option maxRecDepth 100000 in
theorem zmo_333 : zmOK zmd_333 := ⟨zsub_8 (List.mem_of_getElem? (i := 199) rfl), zsub_1 (List.mem_of_getElem? (i := 12) rfl), zdp_71, rfl, zmh_13, plainFor_of_name zpn_13, (fun _ => zsub_8 (List.mem_of_getElem? (i := 198) rfl)), (fun h => nomatch h)⟩
noncomputable abbrev zmd_334 : zMd := (⟨"RaysOfShapesModel", "image", "()I"⟩, prog_14_method_123_code, 2, some .int, false, 0, 13)
set_option maxRecDepth 100000 in
theorem zmo_334 : zmOK zmd_334 := ⟨zsub_8 (List.mem_of_getElem? (i := 196) rfl), zsub_1 (List.mem_of_getElem? (i := 12) rfl), zdp_2, rfl, zmh_13, plainFor_of_name zpn_13, (fun h => nomatch h), (fun _ => ⟨zsub_8 (List.mem_of_getElem? (i := 194) rfl), Or.inr (zsub_8 (List.mem_of_getElem? (i := 195) rfl))⟩)⟩
noncomputable abbrev zmd_335 : zMd := (⟨"RaysOfShapesModel", "back", "()I"⟩, prog_14_method_124_code, 2, some .int, false, 0, 13)
set_option maxRecDepth 100000 in
theorem zmo_335 : zmOK zmd_335 := ⟨zsub_8 (List.mem_of_getElem? (i := 203) rfl), zsub_1 (List.mem_of_getElem? (i := 12) rfl), zdp_2, rfl, zmh_13, plainFor_of_name zpn_13, (fun h => nomatch h), (fun _ => ⟨zsub_8 (List.mem_of_getElem? (i := 201) rfl), Or.inr (zsub_8 (List.mem_of_getElem? (i := 202) rfl))⟩)⟩
noncomputable abbrev zmd_336 : zMd := (⟨"RaysOfShapesModel", "held", "()I"⟩, prog_14_method_125_code, 3, some .int, false, 0, 13)
set_option maxRecDepth 100000 in
theorem zmo_336 : zmOK zmd_336 := ⟨zsub_8 (List.mem_of_getElem? (i := 211) rfl), zsub_1 (List.mem_of_getElem? (i := 12) rfl), zdp_2, rfl, zmh_13, plainFor_of_name zpn_13, (fun h => nomatch h), (fun _ => ⟨zsub_8 (List.mem_of_getElem? (i := 210) rfl), Or.inr (zsub_0 (List.mem_of_getElem? (i := 97) rfl))⟩)⟩
noncomputable abbrev zmd_337 : zMd := (⟨"RaysOfShapesModel", "status", "(I)I"⟩, prog_14_method_126_code, 2, some .int, false, 1, 13)
set_option maxRecDepth 100000 in
theorem zmo_337 : zmOK zmd_337 := ⟨zsub_8 (List.mem_of_getElem? (i := 207) rfl), zsub_1 (List.mem_of_getElem? (i := 12) rfl), zdp_4, rfl, zmh_13, plainFor_of_name zpn_13, (fun h => nomatch h), (fun _ => ⟨zsub_8 (List.mem_of_getElem? (i := 205) rfl), Or.inr (zsub_8 (List.mem_of_getElem? (i := 206) rfl))⟩)⟩
noncomputable abbrev zmd_338 : zMd := (⟨"java/lang/Long", "bitCount", "(J)I"⟩, prog_15_method_50_code, 2, some .int, true, 1, 15)
set_option maxRecDepth 100000 in
theorem zmo_338 : zmOK zmd_338 := ⟨zsub_3 (List.mem_of_getElem? (i := 184) rfl), zsub_1 (List.mem_of_getElem? (i := 16) rfl), zdp_72, rfl, zmh_15, plainFor_of_name zpn_15, (fun _ => zsub_3 (List.mem_of_getElem? (i := 183) rfl)), (fun h => nomatch h)⟩
noncomputable abbrev zmd_339 : zMd := (⟨"java/lang/Math", "floorMod", "(II)I"⟩, prog_16_method_50_code, 3, some .int, true, 2, 16)
set_option maxRecDepth 100000 in
theorem zmo_339 : zmOK zmd_339 := ⟨zsub_3 (List.mem_of_getElem? (i := 50) rfl), zsub_1 (List.mem_of_getElem? (i := 15) rfl), zdp_30, rfl, zmh_16, by decide +kernel, (fun _ => zsub_3 (List.mem_of_getElem? (i := 49) rfl)), (fun h => nomatch h)⟩
noncomputable abbrev zmd_340 : zMd := (⟨"java/lang/Math", "abs", "(J)J"⟩, prog_16_method_61_code, 2, some .long, true, 1, 16)
set_option maxRecDepth 100000 in
theorem zmo_340 : zmOK zmd_340 := ⟨zsub_3 (List.mem_of_getElem? (i := 39) rfl), zsub_1 (List.mem_of_getElem? (i := 15) rfl), zdp_73, rfl, zmh_16, by decide +kernel, (fun _ => zsub_3 (List.mem_of_getElem? (i := 38) rfl)), (fun h => nomatch h)⟩
noncomputable abbrev zmd_341 : zMd := (⟨"java/lang/Math", "max", "(II)I"⟩, prog_16_method_65_code, 2, some .int, true, 2, 16)
set_option maxRecDepth 100000 in
theorem zmo_341 : zmOK zmd_341 := ⟨zsub_2 (List.mem_of_getElem? (i := 234) rfl), zsub_1 (List.mem_of_getElem? (i := 15) rfl), zdp_30, rfl, zmh_16, by decide +kernel, (fun _ => zsub_2 (List.mem_of_getElem? (i := 233) rfl)), (fun h => nomatch h)⟩
noncomputable abbrev zmd_342 : zMd := (⟨"java/lang/Math", "max", "(JJ)J"⟩, prog_16_method_66_code, 4, some .long, true, 2, 16)
set_option maxRecDepth 100000 in
theorem zmo_342 : zmOK zmd_342 := ⟨zsub_6 (List.mem_of_getElem? (i := 215) rfl), zsub_1 (List.mem_of_getElem? (i := 15) rfl), zdp_64, rfl, zmh_16, by decide +kernel, (fun _ => zsub_6 (List.mem_of_getElem? (i := 214) rfl)), (fun h => nomatch h)⟩
noncomputable abbrev zmd_343 : zMd := (⟨"java/lang/Math", "min", "(II)I"⟩, prog_16_method_69_code, 2, some .int, true, 2, 16)
set_option maxRecDepth 100000 in
theorem zmo_343 : zmOK zmd_343 := ⟨zsub_3 (List.mem_of_getElem? (i := 97) rfl), zsub_1 (List.mem_of_getElem? (i := 15) rfl), zdp_30, rfl, zmh_16, by decide +kernel, (fun _ => zsub_3 (List.mem_of_getElem? (i := 96) rfl)), (fun h => nomatch h)⟩
noncomputable abbrev zmd_344 : zMd := (⟨"java/lang/Math", "min", "(JJ)J"⟩, prog_16_method_70_code, 4, some .long, true, 2, 16)
set_option maxRecDepth 100000 in
theorem zmo_344 : zmOK zmd_344 := ⟨zsub_6 (List.mem_of_getElem? (i := 218) rfl), zsub_1 (List.mem_of_getElem? (i := 15) rfl), zdp_64, rfl, zmh_16, by decide +kernel, (fun _ => zsub_6 (List.mem_of_getElem? (i := 217) rfl)), (fun h => nomatch h)⟩
noncomputable abbrev zmd_345 : zMd := (⟨"java/lang/String", "length", "()I"⟩, prog_17_method_54_code, 1, some .int, false, 0, 17)
set_option maxRecDepth 100000 in
theorem zmo_345 : zmOK zmd_345 := ⟨zsub_4 (List.mem_of_getElem? (i := 34) rfl), zsub_1 (List.mem_of_getElem? (i := 17) rfl), zdp_2, rfl, zmh_17, plainFor_of_name zpn_17, (fun h => nomatch h), (fun _ => ⟨zsub_4 (List.mem_of_getElem? (i := 32) rfl), Or.inr (zsub_4 (List.mem_of_getElem? (i := 33) rfl))⟩)⟩
noncomputable abbrev zmd_346 : zMd := (⟨"java/lang/String", "charAt", "(I)C"⟩, prog_17_method_56_code, 2, some .char, false, 1, 17)
set_option maxRecDepth 100000 in
theorem zmo_346 : zmOK zmd_346 := ⟨zsub_4 (List.mem_of_getElem? (i := 44) rfl), zsub_1 (List.mem_of_getElem? (i := 17) rfl), zdp_74, rfl, zmh_17, plainFor_of_name zpn_17, (fun h => nomatch h), (fun _ => ⟨zsub_4 (List.mem_of_getElem? (i := 42) rfl), Or.inr (zsub_4 (List.mem_of_getElem? (i := 43) rfl))⟩)⟩
noncomputable abbrev zmd_347 : zMd := (⟨"java/lang/String", "coder", "()B"⟩, prog_17_method_152_code, 1, some .byte, false, 0, 17)
set_option maxRecDepth 100000 in
theorem zmo_347 : zmOK zmd_347 := ⟨zsub_4 (List.mem_of_getElem? (i := 38) rfl), zsub_1 (List.mem_of_getElem? (i := 17) rfl), zdp_75, rfl, zmh_17, plainFor_of_name zpn_17, (fun h => nomatch h), (fun _ => ⟨zsub_4 (List.mem_of_getElem? (i := 36) rfl), Or.inr (zsub_4 (List.mem_of_getElem? (i := 37) rfl))⟩)⟩
noncomputable abbrev zmd_348 : zMd := (⟨"java/lang/String", "isLatin1", "()Z"⟩, prog_17_method_154_code, 1, some .boolean, false, 0, 17)
set_option maxRecDepth 100000 in
theorem zmo_348 : zmOK zmd_348 := ⟨zsub_4 (List.mem_of_getElem? (i := 48) rfl), zsub_1 (List.mem_of_getElem? (i := 17) rfl), zdp_8, rfl, zmh_17, plainFor_of_name zpn_17, (fun h => nomatch h), (fun _ => ⟨zsub_4 (List.mem_of_getElem? (i := 46) rfl), Or.inr (zsub_4 (List.mem_of_getElem? (i := 47) rfl))⟩)⟩
noncomputable abbrev zmd_349 : zMd := (⟨"java/lang/String", "checkIndex", "(II)V"⟩, prog_17_method_155_code, 2, none, true, 2, 17)
set_option maxRecDepth 100000 in
theorem zmo_349 : zmOK zmd_349 := ⟨zsub_4 (List.mem_of_getElem? (i := 54) rfl), zsub_1 (List.mem_of_getElem? (i := 17) rfl), zdp_13, rfl, zmh_17, plainFor_of_name zpn_17, (fun _ => zsub_4 (List.mem_of_getElem? (i := 53) rfl)), (fun h => nomatch h)⟩
noncomputable abbrev zmd_350 : zMd := (⟨"java/lang/StringLatin1", "charAt", "([BI)C"⟩, prog_18_method_2_code, 2, some .char, true, 2, 18)
set_option maxRecDepth 100000 in
theorem zmo_350 : zmOK zmd_350 := ⟨zsub_4 (List.mem_of_getElem? (i := 51) rfl), zsub_1 (List.mem_of_getElem? (i := 18) rfl), zdp_76, rfl, zmh_18, plainFor_of_name zpn_18, (fun _ => zsub_4 (List.mem_of_getElem? (i := 50) rfl)), (fun h => nomatch h)⟩
noncomputable abbrev zmd_351 : zMd := (⟨"jdk/internal/util/Preconditions", "checkIndex", "(IILjava/util/function/BiFunction;)I"⟩, prog_21_method_11_code, 3, some .int, true, 3, 19)
set_option maxRecDepth 100000 in
theorem zmo_351 : zmOK zmd_351 := ⟨zsub_4 (List.mem_of_getElem? (i := 59) rfl), zsub_1 (List.mem_of_getElem? (i := 19) rfl), zdp_77, rfl, zmh_19, plainFor_of_name zpn_19, (fun _ => zsub_4 (List.mem_of_getElem? (i := 58) rfl)), (fun h => nomatch h)⟩
noncomputable def zmd_c0 : List zMd := [zmd_0, zmd_1, zmd_2, zmd_3, zmd_4, zmd_5, zmd_6, zmd_7, zmd_8, zmd_9, zmd_10, zmd_11, zmd_12, zmd_13, zmd_14, zmd_15]
theorem zmd_r0 : ∀ q ∈ zmd_c0, zmOK q := List.forall_mem_cons.mpr ⟨zmo_0, List.forall_mem_cons.mpr ⟨zmo_1, List.forall_mem_cons.mpr ⟨zmo_2, List.forall_mem_cons.mpr ⟨zmo_3, List.forall_mem_cons.mpr ⟨zmo_4, List.forall_mem_cons.mpr ⟨zmo_5, List.forall_mem_cons.mpr ⟨zmo_6, List.forall_mem_cons.mpr ⟨zmo_7, List.forall_mem_cons.mpr ⟨zmo_8, List.forall_mem_cons.mpr ⟨zmo_9, List.forall_mem_cons.mpr ⟨zmo_10, List.forall_mem_cons.mpr ⟨zmo_11, List.forall_mem_cons.mpr ⟨zmo_12, List.forall_mem_cons.mpr ⟨zmo_13, List.forall_mem_cons.mpr ⟨zmo_14, List.forall_mem_cons.mpr ⟨zmo_15, fun _ h => absurd h List.not_mem_nil⟩⟩⟩⟩⟩⟩⟩⟩⟩⟩⟩⟩⟩⟩⟩⟩
noncomputable def zmd_c1 : List zMd := [zmd_16, zmd_17, zmd_18, zmd_19, zmd_20, zmd_21, zmd_22, zmd_23, zmd_24, zmd_25, zmd_26, zmd_27, zmd_28, zmd_29, zmd_30, zmd_31]
theorem zmd_r1 : ∀ q ∈ zmd_c1, zmOK q := List.forall_mem_cons.mpr ⟨zmo_16, List.forall_mem_cons.mpr ⟨zmo_17, List.forall_mem_cons.mpr ⟨zmo_18, List.forall_mem_cons.mpr ⟨zmo_19, List.forall_mem_cons.mpr ⟨zmo_20, List.forall_mem_cons.mpr ⟨zmo_21, List.forall_mem_cons.mpr ⟨zmo_22, List.forall_mem_cons.mpr ⟨zmo_23, List.forall_mem_cons.mpr ⟨zmo_24, List.forall_mem_cons.mpr ⟨zmo_25, List.forall_mem_cons.mpr ⟨zmo_26, List.forall_mem_cons.mpr ⟨zmo_27, List.forall_mem_cons.mpr ⟨zmo_28, List.forall_mem_cons.mpr ⟨zmo_29, List.forall_mem_cons.mpr ⟨zmo_30, List.forall_mem_cons.mpr ⟨zmo_31, fun _ h => absurd h List.not_mem_nil⟩⟩⟩⟩⟩⟩⟩⟩⟩⟩⟩⟩⟩⟩⟩⟩
noncomputable def zmd_c2 : List zMd := [zmd_32, zmd_33, zmd_34, zmd_35, zmd_36, zmd_37, zmd_38, zmd_39, zmd_40, zmd_41, zmd_42, zmd_43, zmd_44, zmd_45, zmd_46, zmd_47]
theorem zmd_r2 : ∀ q ∈ zmd_c2, zmOK q := List.forall_mem_cons.mpr ⟨zmo_32, List.forall_mem_cons.mpr ⟨zmo_33, List.forall_mem_cons.mpr ⟨zmo_34, List.forall_mem_cons.mpr ⟨zmo_35, List.forall_mem_cons.mpr ⟨zmo_36, List.forall_mem_cons.mpr ⟨zmo_37, List.forall_mem_cons.mpr ⟨zmo_38, List.forall_mem_cons.mpr ⟨zmo_39, List.forall_mem_cons.mpr ⟨zmo_40, List.forall_mem_cons.mpr ⟨zmo_41, List.forall_mem_cons.mpr ⟨zmo_42, List.forall_mem_cons.mpr ⟨zmo_43, List.forall_mem_cons.mpr ⟨zmo_44, List.forall_mem_cons.mpr ⟨zmo_45, List.forall_mem_cons.mpr ⟨zmo_46, List.forall_mem_cons.mpr ⟨zmo_47, fun _ h => absurd h List.not_mem_nil⟩⟩⟩⟩⟩⟩⟩⟩⟩⟩⟩⟩⟩⟩⟩⟩
noncomputable def zmd_c3 : List zMd := [zmd_48, zmd_49, zmd_50, zmd_51, zmd_52, zmd_53, zmd_54, zmd_55, zmd_56, zmd_57, zmd_58, zmd_59, zmd_60, zmd_61, zmd_62, zmd_63]
theorem zmd_r3 : ∀ q ∈ zmd_c3, zmOK q := List.forall_mem_cons.mpr ⟨zmo_48, List.forall_mem_cons.mpr ⟨zmo_49, List.forall_mem_cons.mpr ⟨zmo_50, List.forall_mem_cons.mpr ⟨zmo_51, List.forall_mem_cons.mpr ⟨zmo_52, List.forall_mem_cons.mpr ⟨zmo_53, List.forall_mem_cons.mpr ⟨zmo_54, List.forall_mem_cons.mpr ⟨zmo_55, List.forall_mem_cons.mpr ⟨zmo_56, List.forall_mem_cons.mpr ⟨zmo_57, List.forall_mem_cons.mpr ⟨zmo_58, List.forall_mem_cons.mpr ⟨zmo_59, List.forall_mem_cons.mpr ⟨zmo_60, List.forall_mem_cons.mpr ⟨zmo_61, List.forall_mem_cons.mpr ⟨zmo_62, List.forall_mem_cons.mpr ⟨zmo_63, fun _ h => absurd h List.not_mem_nil⟩⟩⟩⟩⟩⟩⟩⟩⟩⟩⟩⟩⟩⟩⟩⟩
noncomputable def zmd_c4 : List zMd := [zmd_64, zmd_65, zmd_66, zmd_67, zmd_68, zmd_69, zmd_70, zmd_71, zmd_72, zmd_73, zmd_74, zmd_75, zmd_76, zmd_77, zmd_78, zmd_79]
theorem zmd_r4 : ∀ q ∈ zmd_c4, zmOK q := List.forall_mem_cons.mpr ⟨zmo_64, List.forall_mem_cons.mpr ⟨zmo_65, List.forall_mem_cons.mpr ⟨zmo_66, List.forall_mem_cons.mpr ⟨zmo_67, List.forall_mem_cons.mpr ⟨zmo_68, List.forall_mem_cons.mpr ⟨zmo_69, List.forall_mem_cons.mpr ⟨zmo_70, List.forall_mem_cons.mpr ⟨zmo_71, List.forall_mem_cons.mpr ⟨zmo_72, List.forall_mem_cons.mpr ⟨zmo_73, List.forall_mem_cons.mpr ⟨zmo_74, List.forall_mem_cons.mpr ⟨zmo_75, List.forall_mem_cons.mpr ⟨zmo_76, List.forall_mem_cons.mpr ⟨zmo_77, List.forall_mem_cons.mpr ⟨zmo_78, List.forall_mem_cons.mpr ⟨zmo_79, fun _ h => absurd h List.not_mem_nil⟩⟩⟩⟩⟩⟩⟩⟩⟩⟩⟩⟩⟩⟩⟩⟩
noncomputable def zmd_c5 : List zMd := [zmd_80, zmd_81, zmd_82, zmd_83, zmd_84, zmd_85, zmd_86, zmd_87, zmd_88, zmd_89, zmd_90, zmd_91, zmd_92, zmd_93, zmd_94, zmd_95]
theorem zmd_r5 : ∀ q ∈ zmd_c5, zmOK q := List.forall_mem_cons.mpr ⟨zmo_80, List.forall_mem_cons.mpr ⟨zmo_81, List.forall_mem_cons.mpr ⟨zmo_82, List.forall_mem_cons.mpr ⟨zmo_83, List.forall_mem_cons.mpr ⟨zmo_84, List.forall_mem_cons.mpr ⟨zmo_85, List.forall_mem_cons.mpr ⟨zmo_86, List.forall_mem_cons.mpr ⟨zmo_87, List.forall_mem_cons.mpr ⟨zmo_88, List.forall_mem_cons.mpr ⟨zmo_89, List.forall_mem_cons.mpr ⟨zmo_90, List.forall_mem_cons.mpr ⟨zmo_91, List.forall_mem_cons.mpr ⟨zmo_92, List.forall_mem_cons.mpr ⟨zmo_93, List.forall_mem_cons.mpr ⟨zmo_94, List.forall_mem_cons.mpr ⟨zmo_95, fun _ h => absurd h List.not_mem_nil⟩⟩⟩⟩⟩⟩⟩⟩⟩⟩⟩⟩⟩⟩⟩⟩
noncomputable def zmd_c6 : List zMd := [zmd_96, zmd_97, zmd_98, zmd_99, zmd_100, zmd_101, zmd_102, zmd_103, zmd_104, zmd_105, zmd_106, zmd_107, zmd_108, zmd_109, zmd_110, zmd_111]
theorem zmd_r6 : ∀ q ∈ zmd_c6, zmOK q := List.forall_mem_cons.mpr ⟨zmo_96, List.forall_mem_cons.mpr ⟨zmo_97, List.forall_mem_cons.mpr ⟨zmo_98, List.forall_mem_cons.mpr ⟨zmo_99, List.forall_mem_cons.mpr ⟨zmo_100, List.forall_mem_cons.mpr ⟨zmo_101, List.forall_mem_cons.mpr ⟨zmo_102, List.forall_mem_cons.mpr ⟨zmo_103, List.forall_mem_cons.mpr ⟨zmo_104, List.forall_mem_cons.mpr ⟨zmo_105, List.forall_mem_cons.mpr ⟨zmo_106, List.forall_mem_cons.mpr ⟨zmo_107, List.forall_mem_cons.mpr ⟨zmo_108, List.forall_mem_cons.mpr ⟨zmo_109, List.forall_mem_cons.mpr ⟨zmo_110, List.forall_mem_cons.mpr ⟨zmo_111, fun _ h => absurd h List.not_mem_nil⟩⟩⟩⟩⟩⟩⟩⟩⟩⟩⟩⟩⟩⟩⟩⟩
noncomputable def zmd_c7 : List zMd := [zmd_112, zmd_113, zmd_114, zmd_115, zmd_116, zmd_117, zmd_118, zmd_119, zmd_120, zmd_121, zmd_122, zmd_123, zmd_124, zmd_125, zmd_126, zmd_127]
theorem zmd_r7 : ∀ q ∈ zmd_c7, zmOK q := List.forall_mem_cons.mpr ⟨zmo_112, List.forall_mem_cons.mpr ⟨zmo_113, List.forall_mem_cons.mpr ⟨zmo_114, List.forall_mem_cons.mpr ⟨zmo_115, List.forall_mem_cons.mpr ⟨zmo_116, List.forall_mem_cons.mpr ⟨zmo_117, List.forall_mem_cons.mpr ⟨zmo_118, List.forall_mem_cons.mpr ⟨zmo_119, List.forall_mem_cons.mpr ⟨zmo_120, List.forall_mem_cons.mpr ⟨zmo_121, List.forall_mem_cons.mpr ⟨zmo_122, List.forall_mem_cons.mpr ⟨zmo_123, List.forall_mem_cons.mpr ⟨zmo_124, List.forall_mem_cons.mpr ⟨zmo_125, List.forall_mem_cons.mpr ⟨zmo_126, List.forall_mem_cons.mpr ⟨zmo_127, fun _ h => absurd h List.not_mem_nil⟩⟩⟩⟩⟩⟩⟩⟩⟩⟩⟩⟩⟩⟩⟩⟩
noncomputable def zmd_c8 : List zMd := [zmd_128, zmd_129, zmd_130, zmd_131, zmd_132, zmd_133, zmd_134, zmd_135, zmd_136, zmd_137, zmd_138, zmd_139, zmd_140, zmd_141, zmd_142, zmd_143]
theorem zmd_r8 : ∀ q ∈ zmd_c8, zmOK q := List.forall_mem_cons.mpr ⟨zmo_128, List.forall_mem_cons.mpr ⟨zmo_129, List.forall_mem_cons.mpr ⟨zmo_130, List.forall_mem_cons.mpr ⟨zmo_131, List.forall_mem_cons.mpr ⟨zmo_132, List.forall_mem_cons.mpr ⟨zmo_133, List.forall_mem_cons.mpr ⟨zmo_134, List.forall_mem_cons.mpr ⟨zmo_135, List.forall_mem_cons.mpr ⟨zmo_136, List.forall_mem_cons.mpr ⟨zmo_137, List.forall_mem_cons.mpr ⟨zmo_138, List.forall_mem_cons.mpr ⟨zmo_139, List.forall_mem_cons.mpr ⟨zmo_140, List.forall_mem_cons.mpr ⟨zmo_141, List.forall_mem_cons.mpr ⟨zmo_142, List.forall_mem_cons.mpr ⟨zmo_143, fun _ h => absurd h List.not_mem_nil⟩⟩⟩⟩⟩⟩⟩⟩⟩⟩⟩⟩⟩⟩⟩⟩
noncomputable def zmd_c9 : List zMd := [zmd_144, zmd_145, zmd_146, zmd_147, zmd_148, zmd_149, zmd_150, zmd_151, zmd_152, zmd_153, zmd_154, zmd_155, zmd_156, zmd_157, zmd_158, zmd_159]
theorem zmd_r9 : ∀ q ∈ zmd_c9, zmOK q := List.forall_mem_cons.mpr ⟨zmo_144, List.forall_mem_cons.mpr ⟨zmo_145, List.forall_mem_cons.mpr ⟨zmo_146, List.forall_mem_cons.mpr ⟨zmo_147, List.forall_mem_cons.mpr ⟨zmo_148, List.forall_mem_cons.mpr ⟨zmo_149, List.forall_mem_cons.mpr ⟨zmo_150, List.forall_mem_cons.mpr ⟨zmo_151, List.forall_mem_cons.mpr ⟨zmo_152, List.forall_mem_cons.mpr ⟨zmo_153, List.forall_mem_cons.mpr ⟨zmo_154, List.forall_mem_cons.mpr ⟨zmo_155, List.forall_mem_cons.mpr ⟨zmo_156, List.forall_mem_cons.mpr ⟨zmo_157, List.forall_mem_cons.mpr ⟨zmo_158, List.forall_mem_cons.mpr ⟨zmo_159, fun _ h => absurd h List.not_mem_nil⟩⟩⟩⟩⟩⟩⟩⟩⟩⟩⟩⟩⟩⟩⟩⟩
noncomputable def zmd_c10 : List zMd := [zmd_160, zmd_161, zmd_162, zmd_163, zmd_164, zmd_165, zmd_166, zmd_167, zmd_168, zmd_169, zmd_170, zmd_171, zmd_172, zmd_173, zmd_174, zmd_175]
theorem zmd_r10 : ∀ q ∈ zmd_c10, zmOK q := List.forall_mem_cons.mpr ⟨zmo_160, List.forall_mem_cons.mpr ⟨zmo_161, List.forall_mem_cons.mpr ⟨zmo_162, List.forall_mem_cons.mpr ⟨zmo_163, List.forall_mem_cons.mpr ⟨zmo_164, List.forall_mem_cons.mpr ⟨zmo_165, List.forall_mem_cons.mpr ⟨zmo_166, List.forall_mem_cons.mpr ⟨zmo_167, List.forall_mem_cons.mpr ⟨zmo_168, List.forall_mem_cons.mpr ⟨zmo_169, List.forall_mem_cons.mpr ⟨zmo_170, List.forall_mem_cons.mpr ⟨zmo_171, List.forall_mem_cons.mpr ⟨zmo_172, List.forall_mem_cons.mpr ⟨zmo_173, List.forall_mem_cons.mpr ⟨zmo_174, List.forall_mem_cons.mpr ⟨zmo_175, fun _ h => absurd h List.not_mem_nil⟩⟩⟩⟩⟩⟩⟩⟩⟩⟩⟩⟩⟩⟩⟩⟩
noncomputable def zmd_c11 : List zMd := [zmd_176, zmd_177, zmd_178, zmd_179, zmd_180, zmd_181, zmd_182, zmd_183, zmd_184, zmd_185, zmd_186, zmd_187, zmd_188, zmd_189, zmd_190, zmd_191]
theorem zmd_r11 : ∀ q ∈ zmd_c11, zmOK q := List.forall_mem_cons.mpr ⟨zmo_176, List.forall_mem_cons.mpr ⟨zmo_177, List.forall_mem_cons.mpr ⟨zmo_178, List.forall_mem_cons.mpr ⟨zmo_179, List.forall_mem_cons.mpr ⟨zmo_180, List.forall_mem_cons.mpr ⟨zmo_181, List.forall_mem_cons.mpr ⟨zmo_182, List.forall_mem_cons.mpr ⟨zmo_183, List.forall_mem_cons.mpr ⟨zmo_184, List.forall_mem_cons.mpr ⟨zmo_185, List.forall_mem_cons.mpr ⟨zmo_186, List.forall_mem_cons.mpr ⟨zmo_187, List.forall_mem_cons.mpr ⟨zmo_188, List.forall_mem_cons.mpr ⟨zmo_189, List.forall_mem_cons.mpr ⟨zmo_190, List.forall_mem_cons.mpr ⟨zmo_191, fun _ h => absurd h List.not_mem_nil⟩⟩⟩⟩⟩⟩⟩⟩⟩⟩⟩⟩⟩⟩⟩⟩
noncomputable def zmd_c12 : List zMd := [zmd_192, zmd_193, zmd_194, zmd_195, zmd_196, zmd_197, zmd_198, zmd_199, zmd_200, zmd_201, zmd_202, zmd_203, zmd_204, zmd_205, zmd_206, zmd_207]
theorem zmd_r12 : ∀ q ∈ zmd_c12, zmOK q := List.forall_mem_cons.mpr ⟨zmo_192, List.forall_mem_cons.mpr ⟨zmo_193, List.forall_mem_cons.mpr ⟨zmo_194, List.forall_mem_cons.mpr ⟨zmo_195, List.forall_mem_cons.mpr ⟨zmo_196, List.forall_mem_cons.mpr ⟨zmo_197, List.forall_mem_cons.mpr ⟨zmo_198, List.forall_mem_cons.mpr ⟨zmo_199, List.forall_mem_cons.mpr ⟨zmo_200, List.forall_mem_cons.mpr ⟨zmo_201, List.forall_mem_cons.mpr ⟨zmo_202, List.forall_mem_cons.mpr ⟨zmo_203, List.forall_mem_cons.mpr ⟨zmo_204, List.forall_mem_cons.mpr ⟨zmo_205, List.forall_mem_cons.mpr ⟨zmo_206, List.forall_mem_cons.mpr ⟨zmo_207, fun _ h => absurd h List.not_mem_nil⟩⟩⟩⟩⟩⟩⟩⟩⟩⟩⟩⟩⟩⟩⟩⟩
noncomputable def zmd_c13 : List zMd := [zmd_208, zmd_209, zmd_210, zmd_211, zmd_212, zmd_213, zmd_214, zmd_215, zmd_216, zmd_217, zmd_218, zmd_219, zmd_220, zmd_221, zmd_222, zmd_223]
theorem zmd_r13 : ∀ q ∈ zmd_c13, zmOK q := List.forall_mem_cons.mpr ⟨zmo_208, List.forall_mem_cons.mpr ⟨zmo_209, List.forall_mem_cons.mpr ⟨zmo_210, List.forall_mem_cons.mpr ⟨zmo_211, List.forall_mem_cons.mpr ⟨zmo_212, List.forall_mem_cons.mpr ⟨zmo_213, List.forall_mem_cons.mpr ⟨zmo_214, List.forall_mem_cons.mpr ⟨zmo_215, List.forall_mem_cons.mpr ⟨zmo_216, List.forall_mem_cons.mpr ⟨zmo_217, List.forall_mem_cons.mpr ⟨zmo_218, List.forall_mem_cons.mpr ⟨zmo_219, List.forall_mem_cons.mpr ⟨zmo_220, List.forall_mem_cons.mpr ⟨zmo_221, List.forall_mem_cons.mpr ⟨zmo_222, List.forall_mem_cons.mpr ⟨zmo_223, fun _ h => absurd h List.not_mem_nil⟩⟩⟩⟩⟩⟩⟩⟩⟩⟩⟩⟩⟩⟩⟩⟩
noncomputable def zmd_c14 : List zMd := [zmd_224, zmd_225, zmd_226, zmd_227, zmd_228, zmd_229, zmd_230, zmd_231, zmd_232, zmd_233, zmd_234, zmd_235, zmd_236, zmd_237, zmd_238, zmd_239]
theorem zmd_r14 : ∀ q ∈ zmd_c14, zmOK q := List.forall_mem_cons.mpr ⟨zmo_224, List.forall_mem_cons.mpr ⟨zmo_225, List.forall_mem_cons.mpr ⟨zmo_226, List.forall_mem_cons.mpr ⟨zmo_227, List.forall_mem_cons.mpr ⟨zmo_228, List.forall_mem_cons.mpr ⟨zmo_229, List.forall_mem_cons.mpr ⟨zmo_230, List.forall_mem_cons.mpr ⟨zmo_231, List.forall_mem_cons.mpr ⟨zmo_232, List.forall_mem_cons.mpr ⟨zmo_233, List.forall_mem_cons.mpr ⟨zmo_234, List.forall_mem_cons.mpr ⟨zmo_235, List.forall_mem_cons.mpr ⟨zmo_236, List.forall_mem_cons.mpr ⟨zmo_237, List.forall_mem_cons.mpr ⟨zmo_238, List.forall_mem_cons.mpr ⟨zmo_239, fun _ h => absurd h List.not_mem_nil⟩⟩⟩⟩⟩⟩⟩⟩⟩⟩⟩⟩⟩⟩⟩⟩
noncomputable def zmd_c15 : List zMd := [zmd_240, zmd_241, zmd_242, zmd_243, zmd_244, zmd_245, zmd_246, zmd_247, zmd_248, zmd_249, zmd_250, zmd_251, zmd_252, zmd_253, zmd_254, zmd_255]
theorem zmd_r15 : ∀ q ∈ zmd_c15, zmOK q := List.forall_mem_cons.mpr ⟨zmo_240, List.forall_mem_cons.mpr ⟨zmo_241, List.forall_mem_cons.mpr ⟨zmo_242, List.forall_mem_cons.mpr ⟨zmo_243, List.forall_mem_cons.mpr ⟨zmo_244, List.forall_mem_cons.mpr ⟨zmo_245, List.forall_mem_cons.mpr ⟨zmo_246, List.forall_mem_cons.mpr ⟨zmo_247, List.forall_mem_cons.mpr ⟨zmo_248, List.forall_mem_cons.mpr ⟨zmo_249, List.forall_mem_cons.mpr ⟨zmo_250, List.forall_mem_cons.mpr ⟨zmo_251, List.forall_mem_cons.mpr ⟨zmo_252, List.forall_mem_cons.mpr ⟨zmo_253, List.forall_mem_cons.mpr ⟨zmo_254, List.forall_mem_cons.mpr ⟨zmo_255, fun _ h => absurd h List.not_mem_nil⟩⟩⟩⟩⟩⟩⟩⟩⟩⟩⟩⟩⟩⟩⟩⟩
noncomputable def zmd_c16 : List zMd := [zmd_256, zmd_257, zmd_258, zmd_259, zmd_260, zmd_261, zmd_262, zmd_263, zmd_264, zmd_265, zmd_266, zmd_267, zmd_268, zmd_269, zmd_270, zmd_271]
theorem zmd_r16 : ∀ q ∈ zmd_c16, zmOK q := List.forall_mem_cons.mpr ⟨zmo_256, List.forall_mem_cons.mpr ⟨zmo_257, List.forall_mem_cons.mpr ⟨zmo_258, List.forall_mem_cons.mpr ⟨zmo_259, List.forall_mem_cons.mpr ⟨zmo_260, List.forall_mem_cons.mpr ⟨zmo_261, List.forall_mem_cons.mpr ⟨zmo_262, List.forall_mem_cons.mpr ⟨zmo_263, List.forall_mem_cons.mpr ⟨zmo_264, List.forall_mem_cons.mpr ⟨zmo_265, List.forall_mem_cons.mpr ⟨zmo_266, List.forall_mem_cons.mpr ⟨zmo_267, List.forall_mem_cons.mpr ⟨zmo_268, List.forall_mem_cons.mpr ⟨zmo_269, List.forall_mem_cons.mpr ⟨zmo_270, List.forall_mem_cons.mpr ⟨zmo_271, fun _ h => absurd h List.not_mem_nil⟩⟩⟩⟩⟩⟩⟩⟩⟩⟩⟩⟩⟩⟩⟩⟩
noncomputable def zmd_c17 : List zMd := [zmd_272, zmd_273, zmd_274, zmd_275, zmd_276, zmd_277, zmd_278, zmd_279, zmd_280, zmd_281, zmd_282, zmd_283, zmd_284, zmd_285, zmd_286, zmd_287]
theorem zmd_r17 : ∀ q ∈ zmd_c17, zmOK q := List.forall_mem_cons.mpr ⟨zmo_272, List.forall_mem_cons.mpr ⟨zmo_273, List.forall_mem_cons.mpr ⟨zmo_274, List.forall_mem_cons.mpr ⟨zmo_275, List.forall_mem_cons.mpr ⟨zmo_276, List.forall_mem_cons.mpr ⟨zmo_277, List.forall_mem_cons.mpr ⟨zmo_278, List.forall_mem_cons.mpr ⟨zmo_279, List.forall_mem_cons.mpr ⟨zmo_280, List.forall_mem_cons.mpr ⟨zmo_281, List.forall_mem_cons.mpr ⟨zmo_282, List.forall_mem_cons.mpr ⟨zmo_283, List.forall_mem_cons.mpr ⟨zmo_284, List.forall_mem_cons.mpr ⟨zmo_285, List.forall_mem_cons.mpr ⟨zmo_286, List.forall_mem_cons.mpr ⟨zmo_287, fun _ h => absurd h List.not_mem_nil⟩⟩⟩⟩⟩⟩⟩⟩⟩⟩⟩⟩⟩⟩⟩⟩
noncomputable def zmd_c18 : List zMd := [zmd_288, zmd_289, zmd_290, zmd_291, zmd_292, zmd_293, zmd_294, zmd_295, zmd_296, zmd_297, zmd_298, zmd_299, zmd_300, zmd_301, zmd_302, zmd_303]
theorem zmd_r18 : ∀ q ∈ zmd_c18, zmOK q := List.forall_mem_cons.mpr ⟨zmo_288, List.forall_mem_cons.mpr ⟨zmo_289, List.forall_mem_cons.mpr ⟨zmo_290, List.forall_mem_cons.mpr ⟨zmo_291, List.forall_mem_cons.mpr ⟨zmo_292, List.forall_mem_cons.mpr ⟨zmo_293, List.forall_mem_cons.mpr ⟨zmo_294, List.forall_mem_cons.mpr ⟨zmo_295, List.forall_mem_cons.mpr ⟨zmo_296, List.forall_mem_cons.mpr ⟨zmo_297, List.forall_mem_cons.mpr ⟨zmo_298, List.forall_mem_cons.mpr ⟨zmo_299, List.forall_mem_cons.mpr ⟨zmo_300, List.forall_mem_cons.mpr ⟨zmo_301, List.forall_mem_cons.mpr ⟨zmo_302, List.forall_mem_cons.mpr ⟨zmo_303, fun _ h => absurd h List.not_mem_nil⟩⟩⟩⟩⟩⟩⟩⟩⟩⟩⟩⟩⟩⟩⟩⟩
noncomputable def zmd_c19 : List zMd := [zmd_304, zmd_305, zmd_306, zmd_307, zmd_308, zmd_309, zmd_310, zmd_311, zmd_312, zmd_313, zmd_314, zmd_315, zmd_316, zmd_317, zmd_318, zmd_319]
theorem zmd_r19 : ∀ q ∈ zmd_c19, zmOK q := List.forall_mem_cons.mpr ⟨zmo_304, List.forall_mem_cons.mpr ⟨zmo_305, List.forall_mem_cons.mpr ⟨zmo_306, List.forall_mem_cons.mpr ⟨zmo_307, List.forall_mem_cons.mpr ⟨zmo_308, List.forall_mem_cons.mpr ⟨zmo_309, List.forall_mem_cons.mpr ⟨zmo_310, List.forall_mem_cons.mpr ⟨zmo_311, List.forall_mem_cons.mpr ⟨zmo_312, List.forall_mem_cons.mpr ⟨zmo_313, List.forall_mem_cons.mpr ⟨zmo_314, List.forall_mem_cons.mpr ⟨zmo_315, List.forall_mem_cons.mpr ⟨zmo_316, List.forall_mem_cons.mpr ⟨zmo_317, List.forall_mem_cons.mpr ⟨zmo_318, List.forall_mem_cons.mpr ⟨zmo_319, fun _ h => absurd h List.not_mem_nil⟩⟩⟩⟩⟩⟩⟩⟩⟩⟩⟩⟩⟩⟩⟩⟩
noncomputable def zmd_c20 : List zMd := [zmd_320, zmd_321, zmd_322, zmd_323, zmd_324, zmd_325, zmd_326, zmd_327, zmd_328, zmd_329, zmd_330, zmd_331, zmd_332, zmd_333, zmd_334, zmd_335]
theorem zmd_r20 : ∀ q ∈ zmd_c20, zmOK q := List.forall_mem_cons.mpr ⟨zmo_320, List.forall_mem_cons.mpr ⟨zmo_321, List.forall_mem_cons.mpr ⟨zmo_322, List.forall_mem_cons.mpr ⟨zmo_323, List.forall_mem_cons.mpr ⟨zmo_324, List.forall_mem_cons.mpr ⟨zmo_325, List.forall_mem_cons.mpr ⟨zmo_326, List.forall_mem_cons.mpr ⟨zmo_327, List.forall_mem_cons.mpr ⟨zmo_328, List.forall_mem_cons.mpr ⟨zmo_329, List.forall_mem_cons.mpr ⟨zmo_330, List.forall_mem_cons.mpr ⟨zmo_331, List.forall_mem_cons.mpr ⟨zmo_332, List.forall_mem_cons.mpr ⟨zmo_333, List.forall_mem_cons.mpr ⟨zmo_334, List.forall_mem_cons.mpr ⟨zmo_335, fun _ h => absurd h List.not_mem_nil⟩⟩⟩⟩⟩⟩⟩⟩⟩⟩⟩⟩⟩⟩⟩⟩
noncomputable def zmd_c21 : List zMd := [zmd_336, zmd_337, zmd_338, zmd_339, zmd_340, zmd_341, zmd_342, zmd_343, zmd_344, zmd_345, zmd_346, zmd_347, zmd_348, zmd_349, zmd_350, zmd_351]
theorem zmd_r21 : ∀ q ∈ zmd_c21, zmOK q := List.forall_mem_cons.mpr ⟨zmo_336, List.forall_mem_cons.mpr ⟨zmo_337, List.forall_mem_cons.mpr ⟨zmo_338, List.forall_mem_cons.mpr ⟨zmo_339, List.forall_mem_cons.mpr ⟨zmo_340, List.forall_mem_cons.mpr ⟨zmo_341, List.forall_mem_cons.mpr ⟨zmo_342, List.forall_mem_cons.mpr ⟨zmo_343, List.forall_mem_cons.mpr ⟨zmo_344, List.forall_mem_cons.mpr ⟨zmo_345, List.forall_mem_cons.mpr ⟨zmo_346, List.forall_mem_cons.mpr ⟨zmo_347, List.forall_mem_cons.mpr ⟨zmo_348, List.forall_mem_cons.mpr ⟨zmo_349, List.forall_mem_cons.mpr ⟨zmo_350, List.forall_mem_cons.mpr ⟨zmo_351, fun _ h => absurd h List.not_mem_nil⟩⟩⟩⟩⟩⟩⟩⟩⟩⟩⟩⟩⟩⟩⟩⟩
noncomputable def zmd : List zMd := zmd_c0 ++ (zmd_c1 ++ (zmd_c2 ++ (zmd_c3 ++ (zmd_c4 ++ (zmd_c5 ++ (zmd_c6 ++ (zmd_c7 ++ (zmd_c8 ++ (zmd_c9 ++ (zmd_c10 ++ (zmd_c11 ++ (zmd_c12 ++ (zmd_c13 ++ (zmd_c14 ++ (zmd_c15 ++ (zmd_c16 ++ (zmd_c17 ++ (zmd_c18 ++ (zmd_c19 ++ (zmd_c20 ++ (zmd_c21)))))))))))))))))))))
theorem zmd_ok : ∀ q ∈ zmd, zmOK q := List.forall_mem_append.mpr ⟨zmd_r0, List.forall_mem_append.mpr ⟨zmd_r1, List.forall_mem_append.mpr ⟨zmd_r2, List.forall_mem_append.mpr ⟨zmd_r3, List.forall_mem_append.mpr ⟨zmd_r4, List.forall_mem_append.mpr ⟨zmd_r5, List.forall_mem_append.mpr ⟨zmd_r6, List.forall_mem_append.mpr ⟨zmd_r7, List.forall_mem_append.mpr ⟨zmd_r8, List.forall_mem_append.mpr ⟨zmd_r9, List.forall_mem_append.mpr ⟨zmd_r10, List.forall_mem_append.mpr ⟨zmd_r11, List.forall_mem_append.mpr ⟨zmd_r12, List.forall_mem_append.mpr ⟨zmd_r13, List.forall_mem_append.mpr ⟨zmd_r14, List.forall_mem_append.mpr ⟨zmd_r15, List.forall_mem_append.mpr ⟨zmd_r16, List.forall_mem_append.mpr ⟨zmd_r17, List.forall_mem_append.mpr ⟨zmd_r18, List.forall_mem_append.mpr ⟨zmd_r19, List.forall_mem_append.mpr ⟨zmd_r20, zmd_r21⟩⟩⟩⟩⟩⟩⟩⟩⟩⟩⟩⟩⟩⟩⟩⟩⟩⟩⟩⟩⟩
/-- an entry of a call: own class, index, method, host ("" = plain) -/
abbrev zMe : Type := Nat × Nat × Nat × String
def zeOK (e : zMe) : Prop := ∃ q : zMd, znth zmd e.2.2.1 = some q ∧ ((e.2.2.2 = "" → Jvm.Cond.methodLink (zcnOf e.1) e.2.1 q.1 ∈ lw_tbl) ∧ (e.2.2.2 ≠ "" → Jvm.Cond.methodLinkNest (zcnOf e.1) e.2.1 q.1 e.2.2.2 ∈ lw_tbl))
set_option maxRecDepth 100000 in
theorem zme_0 : zeOK (1, 9, 48, "RaysOfShapes") := ⟨zmd_48, rfl, fun h => absurd h (by decide +kernel), fun _ => zsub_1 (List.mem_of_getElem? (i := 69) rfl)⟩
set_option maxRecDepth 100000 in
theorem zme_1 : zeOK (1, 34, 339, "") := ⟨zmd_339, rfl, fun _ => zsub_5 (List.mem_of_getElem? (i := 191) rfl), fun h => absurd rfl h⟩
set_option maxRecDepth 100000 in
theorem zme_2 : zeOK (1, 40, 55, "") := ⟨zmd_55, rfl, fun _ => zsub_5 (List.mem_of_getElem? (i := 192) rfl), fun h => absurd rfl h⟩
set_option maxRecDepth 100000 in
theorem zme_3 : zeOK (1, 44, 56, "") := ⟨zmd_56, rfl, fun _ => zsub_5 (List.mem_of_getElem? (i := 197) rfl), fun h => absurd rfl h⟩
set_option maxRecDepth 100000 in
theorem zme_4 : zeOK (1, 48, 343, "") := ⟨zmd_343, rfl, fun _ => zsub_5 (List.mem_of_getElem? (i := 201) rfl), fun h => absurd rfl h⟩
set_option maxRecDepth 100000 in
theorem zme_5 : zeOK (1, 51, 57, "") := ⟨zmd_57, rfl, fun _ => zsub_5 (List.mem_of_getElem? (i := 202) rfl), fun h => absurd rfl h⟩
set_option maxRecDepth 100000 in
theorem zme_6 : zeOK (1, 55, 53, "") := ⟨zmd_53, rfl, fun _ => zsub_6 (List.mem_of_getElem? (i := 32) rfl), fun h => absurd rfl h⟩
set_option maxRecDepth 100000 in
theorem zme_7 : zeOK (2, 16, 340, "") := ⟨zmd_340, rfl, fun _ => zsub_3 (List.mem_of_getElem? (i := 37) rfl), fun h => absurd rfl h⟩
set_option maxRecDepth 100000 in
theorem zme_8 : zeOK (2, 22, 15, "") := ⟨zmd_15, rfl, fun _ => zsub_3 (List.mem_of_getElem? (i := 16) rfl), fun h => absurd rfl h⟩
set_option maxRecDepth 100000 in
theorem zme_9 : zeOK (2, 26, 18, "") := ⟨zmd_18, rfl, fun _ => zsub_3 (List.mem_of_getElem? (i := 20) rfl), fun h => absurd rfl h⟩
set_option maxRecDepth 100000 in
theorem zme_10 : zeOK (2, 30, 17, "") := ⟨zmd_17, rfl, fun _ => zsub_3 (List.mem_of_getElem? (i := 33) rfl), fun h => absurd rfl h⟩
set_option maxRecDepth 100000 in
theorem zme_11 : zeOK (3, 18, 29, "") := ⟨zmd_29, rfl, fun _ => zsub_4 (List.mem_of_getElem? (i := 185) rfl), fun h => absurd rfl h⟩
set_option maxRecDepth 100000 in
theorem zme_12 : zeOK (3, 22, 31, "") := ⟨zmd_31, rfl, fun _ => zsub_4 (List.mem_of_getElem? (i := 186) rfl), fun h => absurd rfl h⟩
set_option maxRecDepth 100000 in
theorem zme_13 : zeOK (3, 26, 32, "") := ⟨zmd_32, rfl, fun _ => zsub_4 (List.mem_of_getElem? (i := 98) rfl), fun h => absurd rfl h⟩
set_option maxRecDepth 100000 in
theorem zme_14 : zeOK (3, 30, 200, "RaysOfShapes") := ⟨zmd_200, rfl, fun h => absurd h (by decide +kernel), fun _ => zsub_4 (List.mem_of_getElem? (i := 101) rfl)⟩
set_option maxRecDepth 100000 in
theorem zme_15 : zeOK (3, 34, 203, "RaysOfShapes") := ⟨zmd_203, rfl, fun h => absurd h (by decide +kernel), fun _ => zsub_4 (List.mem_of_getElem? (i := 102) rfl)⟩
set_option maxRecDepth 100000 in
theorem zme_16 : zeOK (4, 21, 48, "RaysOfShapes") := ⟨zmd_48, rfl, fun h => absurd h (by decide +kernel), fun _ => zsub_1 (List.mem_of_getElem? (i := 161) rfl)⟩
set_option maxRecDepth 100000 in
theorem zme_17 : zeOK (4, 28, 41, "") := ⟨zmd_41, rfl, fun _ => zsub_1 (List.mem_of_getElem? (i := 164) rfl), fun h => absurd rfl h⟩
set_option maxRecDepth 100000 in
theorem zme_18 : zeOK (4, 35, 92, "") := ⟨zmd_92, rfl, fun _ => zsub_1 (List.mem_of_getElem? (i := 191) rfl), fun h => absurd rfl h⟩
set_option maxRecDepth 100000 in
theorem zme_19 : zeOK (4, 40, 341, "") := ⟨zmd_341, rfl, fun _ => zsub_4 (List.mem_of_getElem? (i := 163) rfl), fun h => absurd rfl h⟩
set_option maxRecDepth 100000 in
theorem zme_20 : zeOK (4, 46, 52, "") := ⟨zmd_52, rfl, fun _ => zsub_2 (List.mem_of_getElem? (i := 197) rfl), fun h => absurd rfl h⟩
set_option maxRecDepth 100000 in
theorem zme_21 : zeOK (4, 49, 39, "") := ⟨zmd_39, rfl, fun _ => zsub_2 (List.mem_of_getElem? (i := 201) rfl), fun h => absurd rfl h⟩
set_option maxRecDepth 100000 in
theorem zme_22 : zeOK (4, 53, 37, "") := ⟨zmd_37, rfl, fun _ => zsub_5 (List.mem_of_getElem? (i := 38) rfl), fun h => absurd rfl h⟩
set_option maxRecDepth 100000 in
theorem zme_23 : zeOK (4, 57, 209, "RaysOfShapes") := ⟨zmd_209, rfl, fun h => absurd h (by decide +kernel), fun _ => zsub_2 (List.mem_of_getElem? (i := 205) rfl)⟩
set_option maxRecDepth 100000 in
theorem zme_24 : zeOK (4, 60, 42, "") := ⟨zmd_42, rfl, fun _ => zsub_2 (List.mem_of_getElem? (i := 211) rfl), fun h => absurd rfl h⟩
set_option maxRecDepth 100000 in
theorem zme_25 : zeOK (4, 64, 13, "") := ⟨zmd_13, rfl, fun _ => zsub_3 (List.mem_of_getElem? (i := 62) rfl), fun h => absurd rfl h⟩
set_option maxRecDepth 100000 in
theorem zme_26 : zeOK (4, 70, 50, "") := ⟨zmd_50, rfl, fun _ => zsub_3 (List.mem_of_getElem? (i := 66) rfl), fun h => absurd rfl h⟩
set_option maxRecDepth 100000 in
theorem zme_27 : zeOK (4, 74, 93, "") := ⟨zmd_93, rfl, fun _ => zsub_3 (List.mem_of_getElem? (i := 73) rfl), fun h => absurd rfl h⟩
set_option maxRecDepth 100000 in
theorem zme_28 : zeOK (4, 78, 94, "") := ⟨zmd_94, rfl, fun _ => zsub_3 (List.mem_of_getElem? (i := 77) rfl), fun h => absurd rfl h⟩
set_option maxRecDepth 100000 in
theorem zme_29 : zeOK (4, 81, 97, "") := ⟨zmd_97, rfl, fun _ => zsub_3 (List.mem_of_getElem? (i := 81) rfl), fun h => absurd rfl h⟩
set_option maxRecDepth 100000 in
theorem zme_30 : zeOK (4, 85, 96, "") := ⟨zmd_96, rfl, fun _ => zsub_3 (List.mem_of_getElem? (i := 157) rfl), fun h => absurd rfl h⟩
set_option maxRecDepth 100000 in
theorem zme_31 : zeOK (4, 89, 51, "") := ⟨zmd_51, rfl, fun _ => zsub_3 (List.mem_of_getElem? (i := 161) rfl), fun h => absurd rfl h⟩
set_option maxRecDepth 100000 in
theorem zme_32 : zeOK (4, 93, 95, "") := ⟨zmd_95, rfl, fun _ => zsub_3 (List.mem_of_getElem? (i := 169) rfl), fun h => absurd rfl h⟩
set_option maxRecDepth 100000 in
theorem zme_33 : zeOK (4, 96, 40, "") := ⟨zmd_40, rfl, fun _ => zsub_3 (List.mem_of_getElem? (i := 173) rfl), fun h => absurd rfl h⟩
set_option maxRecDepth 100000 in
theorem zme_34 : zeOK (4, 99, 208, "RaysOfShapes") := ⟨zmd_208, rfl, fun h => absurd h (by decide +kernel), fun _ => zsub_3 (List.mem_of_getElem? (i := 177) rfl)⟩
set_option maxRecDepth 100000 in
theorem zme_35 : zeOK (5, 21, 10, "RaysOfShapes") := ⟨zmd_10, rfl, fun h => absurd h (by decide +kernel), fun _ => zsub_1 (List.mem_of_getElem? (i := 171) rfl)⟩
set_option maxRecDepth 100000 in
theorem zme_36 : zeOK (5, 22, 43, "") := ⟨zmd_43, rfl, fun _ => zsub_2 (List.mem_of_getElem? (i := 215) rfl), fun h => absurd rfl h⟩
set_option maxRecDepth 100000 in
theorem zme_37 : zeOK (5, 26, 112, "") := ⟨zmd_112, rfl, fun _ => zsub_2 (List.mem_of_getElem? (i := 219) rfl), fun h => absurd rfl h⟩
set_option maxRecDepth 100000 in
theorem zme_38 : zeOK (5, 32, 27, "") := ⟨zmd_27, rfl, fun _ => zsub_2 (List.mem_of_getElem? (i := 220) rfl), fun h => absurd rfl h⟩
set_option maxRecDepth 100000 in
theorem zme_39 : zeOK (5, 38, 44, "") := ⟨zmd_44, rfl, fun _ => zsub_2 (List.mem_of_getElem? (i := 223) rfl), fun h => absurd rfl h⟩
set_option maxRecDepth 100000 in
theorem zme_40 : zeOK (5, 42, 16, "") := ⟨zmd_16, rfl, fun _ => zsub_2 (List.mem_of_getElem? (i := 235) rfl), fun h => absurd rfl h⟩
set_option maxRecDepth 100000 in
theorem zme_41 : zeOK (5, 46, 28, "") := ⟨zmd_28, rfl, fun _ => zsub_2 (List.mem_of_getElem? (i := 239) rfl), fun h => absurd rfl h⟩
set_option maxRecDepth 100000 in
theorem zme_42 : zeOK (5, 49, 45, "") := ⟨zmd_45, rfl, fun _ => zsub_3 (List.mem_of_getElem? (i := 2) rfl), fun h => absurd rfl h⟩
set_option maxRecDepth 100000 in
theorem zme_43 : zeOK (5, 52, 46, "") := ⟨zmd_46, rfl, fun _ => zsub_3 (List.mem_of_getElem? (i := 40) rfl), fun h => absurd rfl h⟩
set_option maxRecDepth 100000 in
theorem zme_44 : zeOK (5, 56, 118, "") := ⟨zmd_118, rfl, fun _ => zsub_2 (List.mem_of_getElem? (i := 228) rfl), fun h => absurd rfl h⟩
set_option maxRecDepth 100000 in
theorem zme_45 : zeOK (5, 60, 341, "") := ⟨zmd_341, rfl, fun _ => zsub_2 (List.mem_of_getElem? (i := 232) rfl), fun h => absurd rfl h⟩
set_option maxRecDepth 100000 in
theorem zme_46 : zeOK (5, 65, 113, "") := ⟨zmd_113, rfl, fun _ => zsub_3 (List.mem_of_getElem? (i := 6) rfl), fun h => absurd rfl h⟩
set_option maxRecDepth 100000 in
theorem zme_47 : zeOK (5, 68, 114, "") := ⟨zmd_114, rfl, fun _ => zsub_3 (List.mem_of_getElem? (i := 7) rfl), fun h => absurd rfl h⟩
set_option maxRecDepth 100000 in
theorem zme_48 : zeOK (5, 71, 18, "") := ⟨zmd_18, rfl, fun _ => zsub_3 (List.mem_of_getElem? (i := 8) rfl), fun h => absurd rfl h⟩
set_option maxRecDepth 100000 in
theorem zme_49 : zeOK (5, 75, 19, "") := ⟨zmd_19, rfl, fun _ => zsub_3 (List.mem_of_getElem? (i := 12) rfl), fun h => absurd rfl h⟩
set_option maxRecDepth 100000 in
theorem zme_50 : zeOK (5, 78, 20, "") := ⟨zmd_20, rfl, fun _ => zsub_3 (List.mem_of_getElem? (i := 21) rfl), fun h => absurd rfl h⟩
set_option maxRecDepth 100000 in
theorem zme_51 : zeOK (5, 81, 22, "") := ⟨zmd_22, rfl, fun _ => zsub_3 (List.mem_of_getElem? (i := 25) rfl), fun h => absurd rfl h⟩
set_option maxRecDepth 100000 in
theorem zme_52 : zeOK (5, 84, 25, "") := ⟨zmd_25, rfl, fun _ => zsub_3 (List.mem_of_getElem? (i := 29) rfl), fun h => absurd rfl h⟩
set_option maxRecDepth 100000 in
theorem zme_53 : zeOK (5, 88, 47, "") := ⟨zmd_47, rfl, fun _ => zsub_3 (List.mem_of_getElem? (i := 44) rfl), fun h => absurd rfl h⟩
set_option maxRecDepth 100000 in
theorem zme_54 : zeOK (5, 92, 23, "") := ⟨zmd_23, rfl, fun _ => zsub_3 (List.mem_of_getElem? (i := 54) rfl), fun h => absurd rfl h⟩
set_option maxRecDepth 100000 in
theorem zme_55 : zeOK (5, 95, 24, "") := ⟨zmd_24, rfl, fun _ => zsub_3 (List.mem_of_getElem? (i := 58) rfl), fun h => absurd rfl h⟩
set_option maxRecDepth 100000 in
theorem zme_56 : zeOK (5, 99, 339, "") := ⟨zmd_339, rfl, fun _ => zsub_3 (List.mem_of_getElem? (i := 48) rfl), fun h => absurd rfl h⟩
set_option maxRecDepth 100000 in
theorem zme_57 : zeOK (5, 102, 203, "RaysOfShapes") := ⟨zmd_203, rfl, fun h => absurd h (by decide +kernel), fun _ => zsub_3 (List.mem_of_getElem? (i := 51) rfl)⟩
set_option maxRecDepth 100000 in
theorem zme_58 : zeOK (6, 15, 202, "RaysOfShapes") := ⟨zmd_202, rfl, fun h => absurd h (by decide +kernel), fun _ => zsub_3 (List.mem_of_getElem? (i := 70) rfl)⟩
set_option maxRecDepth 100000 in
theorem zme_59 : zeOK (6, 19, 208, "RaysOfShapes") := ⟨zmd_208, rfl, fun h => absurd h (by decide +kernel), fun _ => zsub_3 (List.mem_of_getElem? (i := 165) rfl)⟩
set_option maxRecDepth 100000 in
theorem zme_60 : zeOK (6, 23, 50, "") := ⟨zmd_50, rfl, fun _ => zsub_3 (List.mem_of_getElem? (i := 168) rfl), fun h => absurd rfl h⟩
set_option maxRecDepth 100000 in
theorem zme_61 : zeOK (6, 27, 52, "") := ⟨zmd_52, rfl, fun _ => zsub_6 (List.mem_of_getElem? (i := 4) rfl), fun h => absurd rfl h⟩
set_option maxRecDepth 100000 in
theorem zme_62 : zeOK (6, 30, 341, "") := ⟨zmd_341, rfl, fun _ => zsub_6 (List.mem_of_getElem? (i := 5) rfl), fun h => absurd rfl h⟩
set_option maxRecDepth 100000 in
theorem zme_63 : zeOK (6, 36, 343, "") := ⟨zmd_343, rfl, fun _ => zsub_6 (List.mem_of_getElem? (i := 6) rfl), fun h => absurd rfl h⟩
set_option maxRecDepth 100000 in
theorem zme_64 : zeOK (6, 41, 338, "") := ⟨zmd_338, rfl, fun _ => zsub_3 (List.mem_of_getElem? (i := 182) rfl), fun h => absurd rfl h⟩
set_option maxRecDepth 100000 in
theorem zme_65 : zeOK (6, 47, 49, "") := ⟨zmd_49, rfl, fun _ => zsub_5 (List.mem_of_getElem? (i := 47) rfl), fun h => absurd rfl h⟩
set_option maxRecDepth 100000 in
theorem zme_66 : zeOK (7, 46, 69, "") := ⟨zmd_69, rfl, fun _ => zsub_3 (List.mem_of_getElem? (i := 233) rfl), fun h => absurd rfl h⟩
set_option maxRecDepth 100000 in
theorem zme_67 : zeOK (7, 50, 75, "") := ⟨zmd_75, rfl, fun _ => zsub_3 (List.mem_of_getElem? (i := 237) rfl), fun h => absurd rfl h⟩
set_option maxRecDepth 100000 in
theorem zme_68 : zeOK (7, 53, 77, "") := ⟨zmd_77, rfl, fun _ => zsub_4 (List.mem_of_getElem? (i := 5) rfl), fun h => absurd rfl h⟩
set_option maxRecDepth 100000 in
theorem zme_69 : zeOK (7, 57, 73, "") := ⟨zmd_73, rfl, fun _ => zsub_4 (List.mem_of_getElem? (i := 79) rfl), fun h => absurd rfl h⟩
set_option maxRecDepth 100000 in
theorem zme_70 : zeOK (7, 61, 29, "") := ⟨zmd_29, rfl, fun _ => zsub_4 (List.mem_of_getElem? (i := 83) rfl), fun h => absurd rfl h⟩
set_option maxRecDepth 100000 in
theorem zme_71 : zeOK (7, 67, 79, "") := ⟨zmd_79, rfl, fun _ => zsub_4 (List.mem_of_getElem? (i := 88) rfl), fun h => absurd rfl h⟩
set_option maxRecDepth 100000 in
theorem zme_72 : zeOK (7, 71, 27, "") := ⟨zmd_27, rfl, fun _ => zsub_4 (List.mem_of_getElem? (i := 103) rfl), fun h => absurd rfl h⟩
set_option maxRecDepth 100000 in
theorem zme_73 : zeOK (7, 74, 72, "") := ⟨zmd_72, rfl, fun _ => zsub_4 (List.mem_of_getElem? (i := 104) rfl), fun h => absurd rfl h⟩
set_option maxRecDepth 100000 in
theorem zme_74 : zeOK (7, 78, 71, "") := ⟨zmd_71, rfl, fun _ => zsub_4 (List.mem_of_getElem? (i := 132) rfl), fun h => absurd rfl h⟩
set_option maxRecDepth 100000 in
theorem zme_75 : zeOK (7, 82, 76, "") := ⟨zmd_76, rfl, fun _ => zsub_4 (List.mem_of_getElem? (i := 138) rfl), fun h => absurd rfl h⟩
set_option maxRecDepth 100000 in
theorem zme_76 : zeOK (7, 85, 70, "") := ⟨zmd_70, rfl, fun _ => zsub_4 (List.mem_of_getElem? (i := 147) rfl), fun h => absurd rfl h⟩
set_option maxRecDepth 100000 in
theorem zme_77 : zeOK (7, 94, 343, "") := ⟨zmd_343, rfl, fun _ => zsub_4 (List.mem_of_getElem? (i := 136) rfl), fun h => absurd rfl h⟩
set_option maxRecDepth 100000 in
theorem zme_78 : zeOK (7, 100, 28, "") := ⟨zmd_28, rfl, fun _ => zsub_4 (List.mem_of_getElem? (i := 137) rfl), fun h => absurd rfl h⟩
set_option maxRecDepth 100000 in
theorem zme_79 : zeOK (7, 103, 119, "") := ⟨zmd_119, rfl, fun _ => zsub_4 (List.mem_of_getElem? (i := 142) rfl), fun h => absurd rfl h⟩
set_option maxRecDepth 100000 in
theorem zme_80 : zeOK (7, 109, 110, "") := ⟨zmd_110, rfl, fun _ => zsub_4 (List.mem_of_getElem? (i := 108) rfl), fun h => absurd rfl h⟩
set_option maxRecDepth 100000 in
theorem zme_81 : zeOK (7, 111, 122, "") := ⟨zmd_122, rfl, fun _ => zsub_4 (List.mem_of_getElem? (i := 109) rfl), fun h => absurd rfl h⟩
set_option maxRecDepth 100000 in
theorem zme_82 : zeOK (7, 114, 74, "") := ⟨zmd_74, rfl, fun _ => zsub_4 (List.mem_of_getElem? (i := 1) rfl), fun h => absurd rfl h⟩
set_option maxRecDepth 100000 in
theorem zme_83 : zeOK (7, 117, 200, "RaysOfShapes") := ⟨zmd_200, rfl, fun h => absurd h (by decide +kernel), fun _ => zsub_4 (List.mem_of_getElem? (i := 9) rfl)⟩
set_option maxRecDepth 100000 in
theorem zme_84 : zeOK (7, 120, 34, "") := ⟨zmd_34, rfl, fun _ => zsub_4 (List.mem_of_getElem? (i := 10) rfl), fun h => absurd rfl h⟩
set_option maxRecDepth 100000 in
theorem zme_85 : zeOK (7, 124, 78, "") := ⟨zmd_78, rfl, fun _ => zsub_4 (List.mem_of_getElem? (i := 27) rfl), fun h => absurd rfl h⟩
set_option maxRecDepth 100000 in
theorem zme_86 : zeOK (7, 128, 345, "") := ⟨zmd_345, rfl, fun _ => zsub_4 (List.mem_of_getElem? (i := 31) rfl), fun h => absurd rfl h⟩
set_option maxRecDepth 100000 in
theorem zme_87 : zeOK (7, 133, 346, "") := ⟨zmd_346, rfl, fun _ => zsub_4 (List.mem_of_getElem? (i := 41) rfl), fun h => absurd rfl h⟩
set_option maxRecDepth 100000 in
theorem zme_88 : zeOK (7, 137, 33, "") := ⟨zmd_33, rfl, fun _ => zsub_4 (List.mem_of_getElem? (i := 92) rfl), fun h => absurd rfl h⟩
set_option maxRecDepth 100000 in
theorem zme_89 : zeOK (7, 140, 31, "") := ⟨zmd_31, rfl, fun _ => zsub_4 (List.mem_of_getElem? (i := 95) rfl), fun h => absurd rfl h⟩
set_option maxRecDepth 100000 in
theorem zme_90 : zeOK (8, 22, 201, "RaysOfShapes") := ⟨zmd_201, rfl, fun h => absurd h (by decide +kernel), fun _ => zsub_2 (List.mem_of_getElem? (i := 89) rfl)⟩
set_option maxRecDepth 100000 in
theorem zme_91 : zeOK (8, 26, 200, "RaysOfShapes") := ⟨zmd_200, rfl, fun h => absurd h (by decide +kernel), fun _ => zsub_2 (List.mem_of_getElem? (i := 114) rfl)⟩
set_option maxRecDepth 100000 in
theorem zme_92 : zeOK (8, 30, 87, "") := ⟨zmd_87, rfl, fun _ => zsub_2 (List.mem_of_getElem? (i := 110) rfl), fun h => absurd rfl h⟩
set_option maxRecDepth 100000 in
theorem zme_93 : zeOK (8, 34, 90, "") := ⟨zmd_90, rfl, fun _ => zsub_2 (List.mem_of_getElem? (i := 115) rfl), fun h => absurd rfl h⟩
set_option maxRecDepth 100000 in
theorem zme_94 : zeOK (9, 24, 10, "RaysOfShapes") := ⟨zmd_10, rfl, fun h => absurd h (by decide +kernel), fun _ => zsub_1 (List.mem_of_getElem? (i := 196) rfl)⟩
set_option maxRecDepth 100000 in
theorem zme_95 : zeOK (9, 25, 98, "") := ⟨zmd_98, rfl, fun _ => zsub_3 (List.mem_of_getElem? (i := 85) rfl), fun h => absurd rfl h⟩
set_option maxRecDepth 100000 in
theorem zme_96 : zeOK (9, 29, 112, "") := ⟨zmd_112, rfl, fun _ => zsub_3 (List.mem_of_getElem? (i := 89) rfl), fun h => absurd rfl h⟩
set_option maxRecDepth 100000 in
theorem zme_97 : zeOK (9, 35, 99, "") := ⟨zmd_99, rfl, fun _ => zsub_3 (List.mem_of_getElem? (i := 90) rfl), fun h => absurd rfl h⟩
set_option maxRecDepth 100000 in
theorem zme_98 : zeOK (9, 38, 100, "") := ⟨zmd_100, rfl, fun _ => zsub_3 (List.mem_of_getElem? (i := 100) rfl), fun h => absurd rfl h⟩
set_option maxRecDepth 100000 in
theorem zme_99 : zeOK (9, 41, 101, "") := ⟨zmd_101, rfl, fun _ => zsub_3 (List.mem_of_getElem? (i := 105) rfl), fun h => absurd rfl h⟩
set_option maxRecDepth 100000 in
theorem zme_100 : zeOK (9, 44, 102, "") := ⟨zmd_102, rfl, fun _ => zsub_3 (List.mem_of_getElem? (i := 109) rfl), fun h => absurd rfl h⟩
set_option maxRecDepth 100000 in
theorem zme_101 : zeOK (9, 47, 103, "") := ⟨zmd_103, rfl, fun _ => zsub_3 (List.mem_of_getElem? (i := 120) rfl), fun h => absurd rfl h⟩
set_option maxRecDepth 100000 in
theorem zme_102 : zeOK (9, 50, 118, "") := ⟨zmd_118, rfl, fun _ => zsub_3 (List.mem_of_getElem? (i := 94) rfl), fun h => absurd rfl h⟩
set_option maxRecDepth 100000 in
theorem zme_103 : zeOK (9, 54, 343, "") := ⟨zmd_343, rfl, fun _ => zsub_3 (List.mem_of_getElem? (i := 95) rfl), fun h => absurd rfl h⟩
set_option maxRecDepth 100000 in
theorem zme_104 : zeOK (9, 59, 341, "") := ⟨zmd_341, rfl, fun _ => zsub_3 (List.mem_of_getElem? (i := 98) rfl), fun h => absurd rfl h⟩
set_option maxRecDepth 100000 in
theorem zme_105 : zeOK (9, 62, 16, "") := ⟨zmd_16, rfl, fun _ => zsub_3 (List.mem_of_getElem? (i := 99) rfl), fun h => absurd rfl h⟩
set_option maxRecDepth 100000 in
theorem zme_106 : zeOK (9, 67, 113, "") := ⟨zmd_113, rfl, fun _ => zsub_3 (List.mem_of_getElem? (i := 113) rfl), fun h => absurd rfl h⟩
set_option maxRecDepth 100000 in
theorem zme_107 : zeOK (9, 70, 114, "") := ⟨zmd_114, rfl, fun _ => zsub_3 (List.mem_of_getElem? (i := 114) rfl), fun h => absurd rfl h⟩
set_option maxRecDepth 100000 in
theorem zme_108 : zeOK (9, 73, 18, "") := ⟨zmd_18, rfl, fun _ => zsub_3 (List.mem_of_getElem? (i := 115) rfl), fun h => absurd rfl h⟩
set_option maxRecDepth 100000 in
theorem zme_109 : zeOK (9, 77, 19, "") := ⟨zmd_19, rfl, fun _ => zsub_3 (List.mem_of_getElem? (i := 116) rfl), fun h => absurd rfl h⟩
set_option maxRecDepth 100000 in
theorem zme_110 : zeOK (9, 80, 20, "") := ⟨zmd_20, rfl, fun _ => zsub_3 (List.mem_of_getElem? (i := 117) rfl), fun h => absurd rfl h⟩
set_option maxRecDepth 100000 in
theorem zme_111 : zeOK (9, 83, 22, "") := ⟨zmd_22, rfl, fun _ => zsub_3 (List.mem_of_getElem? (i := 118) rfl), fun h => absurd rfl h⟩
set_option maxRecDepth 100000 in
theorem zme_112 : zeOK (9, 86, 25, "") := ⟨zmd_25, rfl, fun _ => zsub_3 (List.mem_of_getElem? (i := 119) rfl), fun h => absurd rfl h⟩
set_option maxRecDepth 100000 in
theorem zme_113 : zeOK (9, 90, 105, "") := ⟨zmd_105, rfl, fun _ => zsub_3 (List.mem_of_getElem? (i := 124) rfl), fun h => absurd rfl h⟩
set_option maxRecDepth 100000 in
theorem zme_114 : zeOK (9, 94, 104, "") := ⟨zmd_104, rfl, fun _ => zsub_3 (List.mem_of_getElem? (i := 142) rfl), fun h => absurd rfl h⟩
set_option maxRecDepth 100000 in
theorem zme_115 : zeOK (9, 98, 24, "") := ⟨zmd_24, rfl, fun _ => zsub_3 (List.mem_of_getElem? (i := 156) rfl), fun h => absurd rfl h⟩
set_option maxRecDepth 100000 in
theorem zme_116 : zeOK (9, 102, 13, "") := ⟨zmd_13, rfl, fun _ => zsub_3 (List.mem_of_getElem? (i := 145) rfl), fun h => absurd rfl h⟩
set_option maxRecDepth 100000 in
theorem zme_117 : zeOK (9, 106, 14, "") := ⟨zmd_14, rfl, fun _ => zsub_3 (List.mem_of_getElem? (i := 146) rfl), fun h => absurd rfl h⟩
set_option maxRecDepth 100000 in
theorem zme_118 : zeOK (9, 109, 23, "") := ⟨zmd_23, rfl, fun _ => zsub_3 (List.mem_of_getElem? (i := 150) rfl), fun h => absurd rfl h⟩
set_option maxRecDepth 100000 in
theorem zme_119 : zeOK (9, 112, 15, "") := ⟨zmd_15, rfl, fun _ => zsub_3 (List.mem_of_getElem? (i := 151) rfl), fun h => absurd rfl h⟩
set_option maxRecDepth 100000 in
theorem zme_120 : zeOK (9, 116, 21, "") := ⟨zmd_21, rfl, fun _ => zsub_3 (List.mem_of_getElem? (i := 152) rfl), fun h => absurd rfl h⟩
set_option maxRecDepth 100000 in
theorem zme_121 : zeOK (9, 119, 203, "RaysOfShapes") := ⟨zmd_203, rfl, fun h => absurd h (by decide +kernel), fun _ => zsub_3 (List.mem_of_getElem? (i := 128) rfl)⟩
set_option maxRecDepth 100000 in
theorem zme_122 : zeOK (9, 123, 106, "") := ⟨zmd_106, rfl, fun _ => zsub_3 (List.mem_of_getElem? (i := 129) rfl), fun h => absurd rfl h⟩
set_option maxRecDepth 100000 in
theorem zme_123 : zeOK (9, 126, 107, "") := ⟨zmd_107, rfl, fun _ => zsub_3 (List.mem_of_getElem? (i := 134) rfl), fun h => absurd rfl h⟩
set_option maxRecDepth 100000 in
theorem zme_124 : zeOK (9, 129, 108, "") := ⟨zmd_108, rfl, fun _ => zsub_3 (List.mem_of_getElem? (i := 138) rfl), fun h => absurd rfl h⟩
set_option maxRecDepth 100000 in
theorem zme_125 : zeOK (9, 132, 339, "") := ⟨zmd_339, rfl, fun _ => zsub_3 (List.mem_of_getElem? (i := 133) rfl), fun h => absurd rfl h⟩
set_option maxRecDepth 100000 in
theorem zme_126 : zeOK (10, 37, 120, "") := ⟨zmd_120, rfl, fun _ => zsub_4 (List.mem_of_getElem? (i := 113) rfl), fun h => absurd rfl h⟩
set_option maxRecDepth 100000 in
theorem zme_127 : zeOK (10, 41, 121, "") := ⟨zmd_121, rfl, fun _ => zsub_4 (List.mem_of_getElem? (i := 120) rfl), fun h => absurd rfl h⟩
set_option maxRecDepth 100000 in
theorem zme_128 : zeOK (10, 44, 27, "") := ⟨zmd_27, rfl, fun _ => zsub_4 (List.mem_of_getElem? (i := 117) rfl), fun h => absurd rfl h⟩
set_option maxRecDepth 100000 in
theorem zme_129 : zeOK (10, 50, 115, "") := ⟨zmd_115, rfl, fun _ => zsub_4 (List.mem_of_getElem? (i := 118) rfl), fun h => absurd rfl h⟩
set_option maxRecDepth 100000 in
theorem zme_130 : zeOK (10, 54, 341, "") := ⟨zmd_341, rfl, fun _ => zsub_4 (List.mem_of_getElem? (i := 119) rfl), fun h => absurd rfl h⟩
set_option maxRecDepth 100000 in
theorem zme_131 : zeOK (10, 60, 117, "") := ⟨zmd_117, rfl, fun _ => zsub_4 (List.mem_of_getElem? (i := 124) rfl), fun h => absurd rfl h⟩
set_option maxRecDepth 100000 in
theorem zme_132 : zeOK (10, 63, 116, "") := ⟨zmd_116, rfl, fun _ => zsub_4 (List.mem_of_getElem? (i := 128) rfl), fun h => absurd rfl h⟩
set_option maxRecDepth 100000 in
theorem zme_133 : zeOK (11, 11, 48, "RaysOfShapes") := ⟨zmd_48, rfl, fun h => absurd h (by decide +kernel), fun _ => zsub_1 (List.mem_of_getElem? (i := 230) rfl)⟩
set_option maxRecDepth 100000 in
theorem zme_134 : zeOK (11, 41, 49, "") := ⟨zmd_49, rfl, fun _ => zsub_5 (List.mem_of_getElem? (i := 72) rfl), fun h => absurd rfl h⟩
set_option maxRecDepth 100000 in
theorem zme_135 : zeOK (11, 45, 211, "RaysOfShapes") := ⟨zmd_211, rfl, fun h => absurd h (by decide +kernel), fun _ => zsub_5 (List.mem_of_getElem? (i := 73) rfl)⟩
set_option maxRecDepth 100000 in
theorem zme_136 : zeOK (11, 49, 133, "") := ⟨zmd_133, rfl, fun _ => zsub_5 (List.mem_of_getElem? (i := 96) rfl), fun h => absurd rfl h⟩
set_option maxRecDepth 100000 in
theorem zme_137 : zeOK (11, 53, 134, "") := ⟨zmd_134, rfl, fun _ => zsub_5 (List.mem_of_getElem? (i := 99) rfl), fun h => absurd rfl h⟩
set_option maxRecDepth 100000 in
theorem zme_138 : zeOK (11, 57, 52, "") := ⟨zmd_52, rfl, fun _ => zsub_5 (List.mem_of_getElem? (i := 110) rfl), fun h => absurd rfl h⟩
set_option maxRecDepth 100000 in
theorem zme_139 : zeOK (11, 60, 136, "") := ⟨zmd_136, rfl, fun _ => zsub_5 (List.mem_of_getElem? (i := 111) rfl), fun h => absurd rfl h⟩
set_option maxRecDepth 100000 in
theorem zme_140 : zeOK (11, 64, 50, "") := ⟨zmd_50, rfl, fun _ => zsub_5 (List.mem_of_getElem? (i := 115) rfl), fun h => absurd rfl h⟩
set_option maxRecDepth 100000 in
theorem zme_141 : zeOK (12, 11, 109, "RaysOfShapes") := ⟨zmd_109, rfl, fun h => absurd h (by decide +kernel), fun _ => zsub_1 (List.mem_of_getElem? (i := 31) rfl)⟩
set_option maxRecDepth 100000 in
theorem zme_142 : zeOK (12, 21, 0, "") := ⟨zmd_0, rfl, fun _ => zsub_1 (List.mem_of_getElem? (i := 63) rfl), fun h => absurd rfl h⟩
set_option maxRecDepth 100000 in
theorem zme_143 : zeOK (12, 31, 80, "") := ⟨zmd_80, rfl, fun _ => zsub_1 (List.mem_of_getElem? (i := 100) rfl), fun h => absurd rfl h⟩
set_option maxRecDepth 100000 in
theorem zme_144 : zeOK (12, 38, 62, "RaysOfShapes") := ⟨zmd_62, rfl, fun h => absurd h (by decide +kernel), fun _ => zsub_1 (List.mem_of_getElem? (i := 116) rfl)⟩
set_option maxRecDepth 100000 in
theorem zme_145 : zeOK (12, 45, 35, "") := ⟨zmd_35, rfl, fun _ => zsub_1 (List.mem_of_getElem? (i := 156) rfl), fun h => absurd rfl h⟩
set_option maxRecDepth 100000 in
theorem zme_146 : zeOK (12, 52, 124, "RaysOfShapes") := ⟨zmd_124, rfl, fun h => absurd h (by decide +kernel), fun _ => zsub_1 (List.mem_of_getElem? (i := 225) rfl)⟩
set_option maxRecDepth 100000 in
theorem zme_147 : zeOK (12, 59, 41, "") := ⟨zmd_41, rfl, fun _ => zsub_2 (List.mem_of_getElem? (i := 17) rfl), fun h => absurd rfl h⟩
set_option maxRecDepth 100000 in
theorem zme_148 : zeOK (12, 66, 92, "") := ⟨zmd_92, rfl, fun _ => zsub_2 (List.mem_of_getElem? (i := 19) rfl), fun h => absurd rfl h⟩
set_option maxRecDepth 100000 in
theorem zme_149 : zeOK (12, 73, 48, "RaysOfShapes") := ⟨zmd_48, rfl, fun h => absurd h (by decide +kernel), fun _ => zsub_2 (List.mem_of_getElem? (i := 21) rfl)⟩
set_option maxRecDepth 100000 in
theorem zme_150 : zeOK (12, 88, 201, "") := ⟨zmd_201, rfl, fun _ => zsub_2 (List.mem_of_getElem? (i := 75) rfl), fun h => absurd rfl h⟩
set_option maxRecDepth 100000 in
theorem zme_151 : zeOK (12, 92, 200, "") := ⟨zmd_200, rfl, fun _ => zsub_2 (List.mem_of_getElem? (i := 78) rfl), fun h => absurd rfl h⟩
set_option maxRecDepth 100000 in
theorem zme_152 : zeOK (12, 96, 194, "") := ⟨zmd_194, rfl, fun _ => zsub_2 (List.mem_of_getElem? (i := 81) rfl), fun h => absurd rfl h⟩
set_option maxRecDepth 100000 in
theorem zme_153 : zeOK (12, 100, 84, "") := ⟨zmd_84, rfl, fun _ => zsub_2 (List.mem_of_getElem? (i := 85) rfl), fun h => absurd rfl h⟩
set_option maxRecDepth 100000 in
theorem zme_154 : zeOK (12, 104, 195, "") := ⟨zmd_195, rfl, fun _ => zsub_2 (List.mem_of_getElem? (i := 94) rfl), fun h => absurd rfl h⟩
set_option maxRecDepth 100000 in
theorem zme_155 : zeOK (12, 107, 82, "") := ⟨zmd_82, rfl, fun _ => zsub_2 (List.mem_of_getElem? (i := 102) rfl), fun h => absurd rfl h⟩
set_option maxRecDepth 100000 in
theorem zme_156 : zeOK (12, 110, 89, "") := ⟨zmd_89, rfl, fun _ => zsub_2 (List.mem_of_getElem? (i := 106) rfl), fun h => absurd rfl h⟩
set_option maxRecDepth 100000 in
theorem zme_157 : zeOK (12, 114, 81, "") := ⟨zmd_81, rfl, fun _ => zsub_2 (List.mem_of_getElem? (i := 98) rfl), fun h => absurd rfl h⟩
set_option maxRecDepth 100000 in
theorem zme_158 : zeOK (12, 117, 206, "") := ⟨zmd_206, rfl, fun _ => zsub_2 (List.mem_of_getElem? (i := 122) rfl), fun h => absurd rfl h⟩
set_option maxRecDepth 100000 in
theorem zme_159 : zeOK (12, 120, 91, "") := ⟨zmd_91, rfl, fun _ => zsub_2 (List.mem_of_getElem? (i := 125) rfl), fun h => absurd rfl h⟩
set_option maxRecDepth 100000 in
theorem zme_160 : zeOK (12, 124, 88, "") := ⟨zmd_88, rfl, fun _ => zsub_2 (List.mem_of_getElem? (i := 136) rfl), fun h => absurd rfl h⟩
set_option maxRecDepth 100000 in
theorem zme_161 : zeOK (12, 128, 197, "") := ⟨zmd_197, rfl, fun _ => zsub_2 (List.mem_of_getElem? (i := 148) rfl), fun h => absurd rfl h⟩
set_option maxRecDepth 100000 in
theorem zme_162 : zeOK (12, 131, 85, "") := ⟨zmd_85, rfl, fun _ => zsub_2 (List.mem_of_getElem? (i := 156) rfl), fun h => absurd rfl h⟩
set_option maxRecDepth 100000 in
theorem zme_163 : zeOK (12, 135, 145, "") := ⟨zmd_145, rfl, fun _ => zsub_2 (List.mem_of_getElem? (i := 164) rfl), fun h => absurd rfl h⟩
set_option maxRecDepth 100000 in
theorem zme_164 : zeOK (12, 139, 113, "") := ⟨zmd_113, rfl, fun _ => zsub_2 (List.mem_of_getElem? (i := 177) rfl), fun h => absurd rfl h⟩
set_option maxRecDepth 100000 in
theorem zme_165 : zeOK (12, 142, 114, "") := ⟨zmd_114, rfl, fun _ => zsub_2 (List.mem_of_getElem? (i := 181) rfl), fun h => absurd rfl h⟩
set_option maxRecDepth 100000 in
theorem zme_166 : zeOK (12, 145, 115, "") := ⟨zmd_115, rfl, fun _ => zsub_2 (List.mem_of_getElem? (i := 185) rfl), fun h => absurd rfl h⟩
set_option maxRecDepth 100000 in
theorem zme_167 : zeOK (12, 148, 198, "") := ⟨zmd_198, rfl, fun _ => zsub_2 (List.mem_of_getElem? (i := 189) rfl), fun h => absurd rfl h⟩
set_option maxRecDepth 100000 in
theorem zme_168 : zeOK (12, 152, 57, "") := ⟨zmd_57, rfl, fun _ => zsub_3 (List.mem_of_getElem? (i := 178) rfl), fun h => absurd rfl h⟩
set_option maxRecDepth 100000 in
theorem zme_169 : zeOK (12, 156, 59, "") := ⟨zmd_59, rfl, fun _ => zsub_3 (List.mem_of_getElem? (i := 188) rfl), fun h => absurd rfl h⟩
set_option maxRecDepth 100000 in
theorem zme_170 : zeOK (12, 160, 58, "") := ⟨zmd_58, rfl, fun _ => zsub_3 (List.mem_of_getElem? (i := 192) rfl), fun h => absurd rfl h⟩
set_option maxRecDepth 100000 in
theorem zme_171 : zeOK (12, 163, 146, "") := ⟨zmd_146, rfl, fun _ => zsub_3 (List.mem_of_getElem? (i := 196) rfl), fun h => absurd rfl h⟩
set_option maxRecDepth 100000 in
theorem zme_172 : zeOK (12, 166, 112, "") := ⟨zmd_112, rfl, fun _ => zsub_2 (List.mem_of_getElem? (i := 168) rfl), fun h => absurd rfl h⟩
set_option maxRecDepth 100000 in
theorem zme_173 : zeOK (12, 169, 26, "") := ⟨zmd_26, rfl, fun _ => zsub_2 (List.mem_of_getElem? (i := 172) rfl), fun h => absurd rfl h⟩
set_option maxRecDepth 100000 in
theorem zme_174 : zeOK (12, 175, 118, "") := ⟨zmd_118, rfl, fun _ => zsub_3 (List.mem_of_getElem? (i := 200) rfl), fun h => absurd rfl h⟩
set_option maxRecDepth 100000 in
theorem zme_175 : zeOK (12, 178, 65, "") := ⟨zmd_65, rfl, fun _ => zsub_3 (List.mem_of_getElem? (i := 205) rfl), fun h => absurd rfl h⟩
set_option maxRecDepth 100000 in
theorem zme_176 : zeOK (12, 182, 66, "") := ⟨zmd_66, rfl, fun _ => zsub_3 (List.mem_of_getElem? (i := 209) rfl), fun h => absurd rfl h⟩
set_option maxRecDepth 100000 in
theorem zme_177 : zeOK (12, 186, 63, "") := ⟨zmd_63, rfl, fun _ => zsub_3 (List.mem_of_getElem? (i := 213) rfl), fun h => absurd rfl h⟩
set_option maxRecDepth 100000 in
theorem zme_178 : zeOK (12, 187, 67, "") := ⟨zmd_67, rfl, fun _ => zsub_3 (List.mem_of_getElem? (i := 221) rfl), fun h => absurd rfl h⟩
set_option maxRecDepth 100000 in
theorem zme_179 : zeOK (12, 190, 68, "") := ⟨zmd_68, rfl, fun _ => zsub_3 (List.mem_of_getElem? (i := 229) rfl), fun h => absurd rfl h⟩
set_option maxRecDepth 100000 in
theorem zme_180 : zeOK (12, 194, 64, "") := ⟨zmd_64, rfl, fun _ => zsub_4 (List.mem_of_getElem? (i := 151) rfl), fun h => absurd rfl h⟩
set_option maxRecDepth 100000 in
theorem zme_181 : zeOK (12, 197, 110, "") := ⟨zmd_110, rfl, fun _ => zsub_2 (List.mem_of_getElem? (i := 152) rfl), fun h => absurd rfl h⟩
set_option maxRecDepth 100000 in
theorem zme_182 : zeOK (12, 198, 160, "") := ⟨zmd_160, rfl, fun _ => zsub_4 (List.mem_of_getElem? (i := 155) rfl), fun h => absurd rfl h⟩
set_option maxRecDepth 100000 in
theorem zme_183 : zeOK (12, 201, 158, "") := ⟨zmd_158, rfl, fun _ => zsub_4 (List.mem_of_getElem? (i := 173) rfl), fun h => absurd rfl h⟩
set_option maxRecDepth 100000 in
theorem zme_184 : zeOK (12, 204, 159, "") := ⟨zmd_159, rfl, fun _ => zsub_4 (List.mem_of_getElem? (i := 177) rfl), fun h => absurd rfl h⟩
set_option maxRecDepth 100000 in
theorem zme_185 : zeOK (12, 208, 27, "") := ⟨zmd_27, rfl, fun _ => zsub_4 (List.mem_of_getElem? (i := 181) rfl), fun h => absurd rfl h⟩
set_option maxRecDepth 100000 in
theorem zme_186 : zeOK (12, 211, 30, "") := ⟨zmd_30, rfl, fun _ => zsub_4 (List.mem_of_getElem? (i := 182) rfl), fun h => absurd rfl h⟩
set_option maxRecDepth 100000 in
theorem zme_187 : zeOK (12, 215, 119, "") := ⟨zmd_119, rfl, fun _ => zsub_4 (List.mem_of_getElem? (i := 187) rfl), fun h => absurd rfl h⟩
set_option maxRecDepth 100000 in
theorem zme_188 : zeOK (12, 218, 122, "") := ⟨zmd_122, rfl, fun _ => zsub_4 (List.mem_of_getElem? (i := 188) rfl), fun h => absurd rfl h⟩
set_option maxRecDepth 100000 in
theorem zme_189 : zeOK (12, 222, 36, "") := ⟨zmd_36, rfl, fun _ => zsub_4 (List.mem_of_getElem? (i := 159) rfl), fun h => absurd rfl h⟩
set_option maxRecDepth 100000 in
theorem zme_190 : zeOK (12, 225, 111, "") := ⟨zmd_111, rfl, fun _ => zsub_4 (List.mem_of_getElem? (i := 164) rfl), fun h => absurd rfl h⟩
set_option maxRecDepth 100000 in
theorem zme_191 : zeOK (12, 232, 343, "") := ⟨zmd_343, rfl, fun _ => zsub_4 (List.mem_of_getElem? (i := 221) rfl), fun h => absurd rfl h⟩
set_option maxRecDepth 100000 in
theorem zme_192 : zeOK (12, 237, 86, "") := ⟨zmd_86, rfl, fun _ => zsub_4 (List.mem_of_getElem? (i := 222) rfl), fun h => absurd rfl h⟩
set_option maxRecDepth 100000 in
theorem zme_193 : zeOK (12, 240, 116, "") := ⟨zmd_116, rfl, fun _ => zsub_4 (List.mem_of_getElem? (i := 230) rfl), fun h => absurd rfl h⟩
set_option maxRecDepth 100000 in
theorem zme_194 : zeOK (12, 243, 204, "") := ⟨zmd_204, rfl, fun _ => zsub_4 (List.mem_of_getElem? (i := 235) rfl), fun h => absurd rfl h⟩
set_option maxRecDepth 100000 in
theorem zme_195 : zeOK (12, 248, 42, "") := ⟨zmd_42, rfl, fun _ => zsub_4 (List.mem_of_getElem? (i := 239) rfl), fun h => absurd rfl h⟩
set_option maxRecDepth 100000 in
theorem zme_196 : zeOK (12, 252, 11, "") := ⟨zmd_11, rfl, fun _ => zsub_5 (List.mem_of_getElem? (i := 0) rfl), fun h => absurd rfl h⟩
set_option maxRecDepth 100000 in
theorem zme_197 : zeOK (12, 258, 12, "") := ⟨zmd_12, rfl, fun _ => zsub_5 (List.mem_of_getElem? (i := 4) rfl), fun h => absurd rfl h⟩
set_option maxRecDepth 100000 in
theorem zme_198 : zeOK (12, 261, 207, "") := ⟨zmd_207, rfl, fun _ => zsub_5 (List.mem_of_getElem? (i := 12) rfl), fun h => absurd rfl h⟩
set_option maxRecDepth 100000 in
theorem zme_199 : zeOK (12, 264, 209, "") := ⟨zmd_209, rfl, fun _ => zsub_5 (List.mem_of_getElem? (i := 16) rfl), fun h => absurd rfl h⟩
set_option maxRecDepth 100000 in
theorem zme_200 : zeOK (12, 267, 93, "") := ⟨zmd_93, rfl, fun _ => zsub_5 (List.mem_of_getElem? (i := 17) rfl), fun h => absurd rfl h⟩
set_option maxRecDepth 100000 in
theorem zme_201 : zeOK (12, 270, 94, "") := ⟨zmd_94, rfl, fun _ => zsub_5 (List.mem_of_getElem? (i := 18) rfl), fun h => absurd rfl h⟩
set_option maxRecDepth 100000 in
theorem zme_202 : zeOK (12, 273, 97, "") := ⟨zmd_97, rfl, fun _ => zsub_5 (List.mem_of_getElem? (i := 19) rfl), fun h => absurd rfl h⟩
set_option maxRecDepth 100000 in
theorem zme_203 : zeOK (12, 277, 95, "") := ⟨zmd_95, rfl, fun _ => zsub_5 (List.mem_of_getElem? (i := 20) rfl), fun h => absurd rfl h⟩
set_option maxRecDepth 100000 in
theorem zme_204 : zeOK (12, 281, 96, "") := ⟨zmd_96, rfl, fun _ => zsub_5 (List.mem_of_getElem? (i := 21) rfl), fun h => absurd rfl h⟩
set_option maxRecDepth 100000 in
theorem zme_205 : zeOK (12, 284, 202, "") := ⟨zmd_202, rfl, fun _ => zsub_5 (List.mem_of_getElem? (i := 15) rfl), fun h => absurd rfl h⟩
set_option maxRecDepth 100000 in
theorem zme_206 : zeOK (12, 287, 49, "") := ⟨zmd_49, rfl, fun _ => zsub_5 (List.mem_of_getElem? (i := 26) rfl), fun h => absurd rfl h⟩
set_option maxRecDepth 100000 in
theorem zme_207 : zeOK (12, 290, 38, "") := ⟨zmd_38, rfl, fun _ => zsub_5 (List.mem_of_getElem? (i := 34) rfl), fun h => absurd rfl h⟩
set_option maxRecDepth 100000 in
theorem zme_208 : zeOK (12, 294, 61, "") := ⟨zmd_61, rfl, fun _ => zsub_5 (List.mem_of_getElem? (i := 43) rfl), fun h => absurd rfl h⟩
set_option maxRecDepth 100000 in
theorem zme_209 : zeOK (12, 297, 203, "") := ⟨zmd_203, rfl, fun _ => zsub_5 (List.mem_of_getElem? (i := 52) rfl), fun h => absurd rfl h⟩
set_option maxRecDepth 100000 in
theorem zme_210 : zeOK (12, 300, 60, "") := ⟨zmd_60, rfl, fun _ => zsub_5 (List.mem_of_getElem? (i := 53) rfl), fun h => absurd rfl h⟩
set_option maxRecDepth 100000 in
theorem zme_211 : zeOK (12, 303, 205, "") := ⟨zmd_205, rfl, fun _ => zsub_5 (List.mem_of_getElem? (i := 65) rfl), fun h => absurd rfl h⟩
set_option maxRecDepth 100000 in
theorem zme_212 : zeOK (12, 306, 131, "") := ⟨zmd_131, rfl, fun _ => zsub_5 (List.mem_of_getElem? (i := 68) rfl), fun h => absurd rfl h⟩
set_option maxRecDepth 100000 in
theorem zme_213 : zeOK (12, 310, 125, "") := ⟨zmd_125, rfl, fun _ => zsub_5 (List.mem_of_getElem? (i := 76) rfl), fun h => absurd rfl h⟩
set_option maxRecDepth 100000 in
theorem zme_214 : zeOK (12, 313, 126, "") := ⟨zmd_126, rfl, fun _ => zsub_5 (List.mem_of_getElem? (i := 80) rfl), fun h => absurd rfl h⟩
set_option maxRecDepth 100000 in
theorem zme_215 : zeOK (12, 316, 127, "") := ⟨zmd_127, rfl, fun _ => zsub_5 (List.mem_of_getElem? (i := 84) rfl), fun h => absurd rfl h⟩
set_option maxRecDepth 100000 in
theorem zme_216 : zeOK (12, 319, 132, "") := ⟨zmd_132, rfl, fun _ => zsub_5 (List.mem_of_getElem? (i := 92) rfl), fun h => absurd rfl h⟩
set_option maxRecDepth 100000 in
theorem zme_217 : zeOK (12, 322, 135, "") := ⟨zmd_135, rfl, fun _ => zsub_5 (List.mem_of_getElem? (i := 106) rfl), fun h => absurd rfl h⟩
set_option maxRecDepth 100000 in
theorem zme_218 : zeOK (12, 326, 128, "") := ⟨zmd_128, rfl, fun _ => zsub_5 (List.mem_of_getElem? (i := 116) rfl), fun h => absurd rfl h⟩
set_option maxRecDepth 100000 in
theorem zme_219 : zeOK (12, 329, 129, "") := ⟨zmd_129, rfl, fun _ => zsub_5 (List.mem_of_getElem? (i := 120) rfl), fun h => absurd rfl h⟩
set_option maxRecDepth 100000 in
theorem zme_220 : zeOK (12, 332, 130, "") := ⟨zmd_130, rfl, fun _ => zsub_5 (List.mem_of_getElem? (i := 124) rfl), fun h => absurd rfl h⟩
set_option maxRecDepth 100000 in
theorem zme_221 : zeOK (12, 335, 211, "") := ⟨zmd_211, rfl, fun _ => zsub_5 (List.mem_of_getElem? (i := 132) rfl), fun h => absurd rfl h⟩
set_option maxRecDepth 100000 in
theorem zme_222 : zeOK (12, 338, 177, "") := ⟨zmd_177, rfl, fun _ => zsub_5 (List.mem_of_getElem? (i := 145) rfl), fun h => absurd rfl h⟩
set_option maxRecDepth 100000 in
theorem zme_223 : zeOK (12, 342, 179, "") := ⟨zmd_179, rfl, fun _ => zsub_5 (List.mem_of_getElem? (i := 152) rfl), fun h => absurd rfl h⟩
set_option maxRecDepth 100000 in
theorem zme_224 : zeOK (12, 345, 199, "") := ⟨zmd_199, rfl, fun _ => zsub_5 (List.mem_of_getElem? (i := 156) rfl), fun h => absurd rfl h⟩
set_option maxRecDepth 100000 in
theorem zme_225 : zeOK (12, 349, 196, "") := ⟨zmd_196, rfl, fun _ => zsub_5 (List.mem_of_getElem? (i := 164) rfl), fun h => absurd rfl h⟩
set_option maxRecDepth 100000 in
theorem zme_226 : zeOK (12, 352, 181, "") := ⟨zmd_181, rfl, fun _ => zsub_5 (List.mem_of_getElem? (i := 169) rfl), fun h => absurd rfl h⟩
set_option maxRecDepth 100000 in
theorem zme_227 : zeOK (12, 356, 182, "") := ⟨zmd_182, rfl, fun _ => zsub_5 (List.mem_of_getElem? (i := 173) rfl), fun h => absurd rfl h⟩
set_option maxRecDepth 100000 in
theorem zme_228 : zeOK (12, 360, 13, "") := ⟨zmd_13, rfl, fun _ => zsub_5 (List.mem_of_getElem? (i := 177) rfl), fun h => absurd rfl h⟩
set_option maxRecDepth 100000 in
theorem zme_229 : zeOK (12, 363, 14, "") := ⟨zmd_14, rfl, fun _ => zsub_5 (List.mem_of_getElem? (i := 178) rfl), fun h => absurd rfl h⟩
set_option maxRecDepth 100000 in
theorem zme_230 : zeOK (12, 366, 7, "") := ⟨zmd_7, rfl, fun _ => zsub_5 (List.mem_of_getElem? (i := 187) rfl), fun h => absurd rfl h⟩
set_option maxRecDepth 100000 in
theorem zme_231 : zeOK (12, 370, 2, "") := ⟨zmd_2, rfl, fun _ => zsub_5 (List.mem_of_getElem? (i := 207) rfl), fun h => absurd rfl h⟩
set_option maxRecDepth 100000 in
theorem zme_232 : zeOK (12, 373, 8, "") := ⟨zmd_8, rfl, fun _ => zsub_5 (List.mem_of_getElem? (i := 211) rfl), fun h => absurd rfl h⟩
set_option maxRecDepth 100000 in
theorem zme_233 : zeOK (12, 376, 1, "") := ⟨zmd_1, rfl, fun _ => zsub_5 (List.mem_of_getElem? (i := 219) rfl), fun h => absurd rfl h⟩
set_option maxRecDepth 100000 in
theorem zme_234 : zeOK (12, 380, 6, "") := ⟨zmd_6, rfl, fun _ => zsub_5 (List.mem_of_getElem? (i := 235) rfl), fun h => absurd rfl h⟩
set_option maxRecDepth 100000 in
theorem zme_235 : zeOK (12, 383, 54, "") := ⟨zmd_54, rfl, fun _ => zsub_6 (List.mem_of_getElem? (i := 0) rfl), fun h => absurd rfl h⟩
set_option maxRecDepth 100000 in
theorem zme_236 : zeOK (12, 387, 4, "") := ⟨zmd_4, rfl, fun _ => zsub_6 (List.mem_of_getElem? (i := 11) rfl), fun h => absurd rfl h⟩
set_option maxRecDepth 100000 in
theorem zme_237 : zeOK (12, 390, 5, "") := ⟨zmd_5, rfl, fun _ => zsub_6 (List.mem_of_getElem? (i := 15) rfl), fun h => absurd rfl h⟩
set_option maxRecDepth 100000 in
theorem zme_238 : zeOK (12, 393, 123, "") := ⟨zmd_123, rfl, fun _ => zsub_6 (List.mem_of_getElem? (i := 23) rfl), fun h => absurd rfl h⟩
set_option maxRecDepth 100000 in
theorem zme_239 : zeOK (12, 397, 9, "") := ⟨zmd_9, rfl, fun _ => zsub_6 (List.mem_of_getElem? (i := 28) rfl), fun h => absurd rfl h⟩
set_option maxRecDepth 100000 in
theorem zme_240 : zeOK (12, 404, 3, "") := ⟨zmd_3, rfl, fun _ => zsub_6 (List.mem_of_getElem? (i := 44) rfl), fun h => absurd rfl h⟩
set_option maxRecDepth 100000 in
theorem zme_241 : zeOK (12, 407, 83, "") := ⟨zmd_83, rfl, fun _ => zsub_6 (List.mem_of_getElem? (i := 48) rfl), fun h => absurd rfl h⟩
set_option maxRecDepth 100000 in
theorem zme_242 : zeOK (12, 412, 37, "") := ⟨zmd_37, rfl, fun _ => zsub_2 (List.mem_of_getElem? (i := 193) rfl), fun h => absurd rfl h⟩
set_option maxRecDepth 100000 in
theorem zme_243 : zeOK (12, 415, 210, "") := ⟨zmd_210, rfl, fun _ => zsub_2 (List.mem_of_getElem? (i := 208) rfl), fun h => absurd rfl h⟩
set_option maxRecDepth 100000 in
theorem zme_244 : zeOK (13, 110, 214, "") := ⟨zmd_214, rfl, fun _ => zsub_6 (List.mem_of_getElem? (i := 190) rfl), fun h => absurd rfl h⟩
set_option maxRecDepth 100000 in
theorem zme_245 : zeOK (13, 119, 213, "") := ⟨zmd_213, rfl, fun _ => zsub_6 (List.mem_of_getElem? (i := 181) rfl), fun h => absurd rfl h⟩
set_option maxRecDepth 100000 in
theorem zme_246 : zeOK (13, 123, 216, "") := ⟨zmd_216, rfl, fun _ => zsub_6 (List.mem_of_getElem? (i := 199) rfl), fun h => absurd rfl h⟩
set_option maxRecDepth 100000 in
theorem zme_247 : zeOK (13, 127, 217, "") := ⟨zmd_217, rfl, fun _ => zsub_6 (List.mem_of_getElem? (i := 203) rfl), fun h => absurd rfl h⟩
set_option maxRecDepth 100000 in
theorem zme_248 : zeOK (13, 132, 220, "") := ⟨zmd_220, rfl, fun _ => zsub_6 (List.mem_of_getElem? (i := 208) rfl), fun h => absurd rfl h⟩
set_option maxRecDepth 100000 in
theorem zme_249 : zeOK (13, 136, 342, "") := ⟨zmd_342, rfl, fun _ => zsub_6 (List.mem_of_getElem? (i := 213) rfl), fun h => absurd rfl h⟩
set_option maxRecDepth 100000 in
theorem zme_250 : zeOK (13, 142, 219, "") := ⟨zmd_219, rfl, fun _ => zsub_6 (List.mem_of_getElem? (i := 195) rfl), fun h => absurd rfl h⟩
set_option maxRecDepth 100000 in
theorem zme_251 : zeOK (13, 146, 344, "") := ⟨zmd_344, rfl, fun _ => zsub_6 (List.mem_of_getElem? (i := 216) rfl), fun h => absurd rfl h⟩
set_option maxRecDepth 100000 in
theorem zme_252 : zeOK (13, 149, 221, "") := ⟨zmd_221, rfl, fun _ => zsub_6 (List.mem_of_getElem? (i := 219) rfl), fun h => absurd rfl h⟩
set_option maxRecDepth 100000 in
theorem zme_253 : zeOK (13, 153, 224, "") := ⟨zmd_224, rfl, fun _ => zsub_6 (List.mem_of_getElem? (i := 223) rfl), fun h => absurd rfl h⟩
set_option maxRecDepth 100000 in
theorem zme_254 : zeOK (13, 156, 341, "") := ⟨zmd_341, rfl, fun _ => zsub_6 (List.mem_of_getElem? (i := 212) rfl), fun h => absurd rfl h⟩
set_option maxRecDepth 100000 in
theorem zme_255 : zeOK (13, 158, 339, "") := ⟨zmd_339, rfl, fun _ => zsub_6 (List.mem_of_getElem? (i := 227) rfl), fun h => absurd rfl h⟩
set_option maxRecDepth 100000 in
theorem zme_256 : zeOK (13, 161, 223, "") := ⟨zmd_223, rfl, fun _ => zsub_6 (List.mem_of_getElem? (i := 228) rfl), fun h => absurd rfl h⟩
set_option maxRecDepth 100000 in
theorem zme_257 : zeOK (13, 165, 222, "") := ⟨zmd_222, rfl, fun _ => zsub_6 (List.mem_of_getElem? (i := 231) rfl), fun h => absurd rfl h⟩
set_option maxRecDepth 100000 in
theorem zme_258 : zeOK (13, 169, 340, "") := ⟨zmd_340, rfl, fun _ => zsub_6 (List.mem_of_getElem? (i := 235) rfl), fun h => absurd rfl h⟩
set_option maxRecDepth 100000 in
theorem zme_259 : zeOK (13, 173, 225, "") := ⟨zmd_225, rfl, fun _ => zsub_6 (List.mem_of_getElem? (i := 239) rfl), fun h => absurd rfl h⟩
set_option maxRecDepth 100000 in
theorem zme_260 : zeOK (13, 175, 218, "") := ⟨zmd_218, rfl, fun _ => zsub_6 (List.mem_of_getElem? (i := 177) rfl), fun h => absurd rfl h⟩
set_option maxRecDepth 100000 in
theorem zme_261 : zeOK (13, 183, 215, "") := ⟨zmd_215, rfl, fun _ => zsub_6 (List.mem_of_getElem? (i := 186) rfl), fun h => absurd rfl h⟩
set_option maxRecDepth 100000 in
theorem zme_262 : zeOK (13, 186, 226, "") := ⟨zmd_226, rfl, fun _ => zsub_6 (List.mem_of_getElem? (i := 236) rfl), fun h => absurd rfl h⟩
set_option maxRecDepth 100000 in
theorem zme_263 : zeOK (13, 190, 228, "") := ⟨zmd_228, rfl, fun _ => zsub_7 (List.mem_of_getElem? (i := 24) rfl), fun h => absurd rfl h⟩
set_option maxRecDepth 100000 in
theorem zme_264 : zeOK (13, 193, 229, "") := ⟨zmd_229, rfl, fun _ => zsub_7 (List.mem_of_getElem? (i := 27) rfl), fun h => absurd rfl h⟩
set_option maxRecDepth 100000 in
theorem zme_265 : zeOK (13, 196, 231, "") := ⟨zmd_231, rfl, fun _ => zsub_7 (List.mem_of_getElem? (i := 30) rfl), fun h => absurd rfl h⟩
set_option maxRecDepth 100000 in
theorem zme_266 : zeOK (13, 199, 232, "") := ⟨zmd_232, rfl, fun _ => zsub_7 (List.mem_of_getElem? (i := 34) rfl), fun h => absurd rfl h⟩
set_option maxRecDepth 100000 in
theorem zme_267 : zeOK (13, 202, 233, "") := ⟨zmd_233, rfl, fun _ => zsub_7 (List.mem_of_getElem? (i := 38) rfl), fun h => absurd rfl h⟩
set_option maxRecDepth 100000 in
theorem zme_268 : zeOK (13, 206, 234, "") := ⟨zmd_234, rfl, fun _ => zsub_7 (List.mem_of_getElem? (i := 41) rfl), fun h => absurd rfl h⟩
set_option maxRecDepth 100000 in
theorem zme_269 : zeOK (13, 210, 240, "") := ⟨zmd_240, rfl, fun _ => zsub_7 (List.mem_of_getElem? (i := 45) rfl), fun h => absurd rfl h⟩
set_option maxRecDepth 100000 in
theorem zme_270 : zeOK (13, 213, 230, "") := ⟨zmd_230, rfl, fun _ => zsub_7 (List.mem_of_getElem? (i := 20) rfl), fun h => absurd rfl h⟩
set_option maxRecDepth 100000 in
theorem zme_271 : zeOK (13, 216, 235, "") := ⟨zmd_235, rfl, fun _ => zsub_7 (List.mem_of_getElem? (i := 52) rfl), fun h => absurd rfl h⟩
set_option maxRecDepth 100000 in
theorem zme_272 : zeOK (13, 220, 343, "") := ⟨zmd_343, rfl, fun _ => zsub_7 (List.mem_of_getElem? (i := 61) rfl), fun h => absurd rfl h⟩
set_option maxRecDepth 100000 in
theorem zme_273 : zeOK (13, 222, 236, "") := ⟨zmd_236, rfl, fun _ => zsub_7 (List.mem_of_getElem? (i := 49) rfl), fun h => absurd rfl h⟩
set_option maxRecDepth 100000 in
theorem zme_274 : zeOK (13, 226, 237, "") := ⟨zmd_237, rfl, fun _ => zsub_7 (List.mem_of_getElem? (i := 55) rfl), fun h => absurd rfl h⟩
set_option maxRecDepth 100000 in
theorem zme_275 : zeOK (13, 229, 238, "") := ⟨zmd_238, rfl, fun _ => zsub_7 (List.mem_of_getElem? (i := 58) rfl), fun h => absurd rfl h⟩
set_option maxRecDepth 100000 in
theorem zme_276 : zeOK (13, 232, 239, "") := ⟨zmd_239, rfl, fun _ => zsub_7 (List.mem_of_getElem? (i := 62) rfl), fun h => absurd rfl h⟩
set_option maxRecDepth 100000 in
theorem zme_277 : zeOK (13, 235, 241, "") := ⟨zmd_241, rfl, fun _ => zsub_7 (List.mem_of_getElem? (i := 65) rfl), fun h => absurd rfl h⟩
set_option maxRecDepth 100000 in
theorem zme_278 : zeOK (13, 239, 242, "") := ⟨zmd_242, rfl, fun _ => zsub_7 (List.mem_of_getElem? (i := 69) rfl), fun h => absurd rfl h⟩
set_option maxRecDepth 100000 in
theorem zme_279 : zeOK (13, 245, 246, "") := ⟨zmd_246, rfl, fun _ => zsub_7 (List.mem_of_getElem? (i := 6) rfl), fun h => absurd rfl h⟩
set_option maxRecDepth 100000 in
theorem zme_280 : zeOK (13, 248, 243, "") := ⟨zmd_243, rfl, fun _ => zsub_7 (List.mem_of_getElem? (i := 10) rfl), fun h => absurd rfl h⟩
set_option maxRecDepth 100000 in
theorem zme_281 : zeOK (13, 251, 244, "") := ⟨zmd_244, rfl, fun _ => zsub_7 (List.mem_of_getElem? (i := 13) rfl), fun h => absurd rfl h⟩
set_option maxRecDepth 100000 in
theorem zme_282 : zeOK (13, 254, 245, "") := ⟨zmd_245, rfl, fun _ => zsub_7 (List.mem_of_getElem? (i := 16) rfl), fun h => absurd rfl h⟩
set_option maxRecDepth 100000 in
theorem zme_283 : zeOK (13, 259, 248, "") := ⟨zmd_248, rfl, fun _ => zsub_7 (List.mem_of_getElem? (i := 77) rfl), fun h => absurd rfl h⟩
set_option maxRecDepth 100000 in
theorem zme_284 : zeOK (13, 263, 251, "") := ⟨zmd_251, rfl, fun _ => zsub_7 (List.mem_of_getElem? (i := 89) rfl), fun h => absurd rfl h⟩
set_option maxRecDepth 100000 in
theorem zme_285 : zeOK (13, 267, 249, "") := ⟨zmd_249, rfl, fun _ => zsub_7 (List.mem_of_getElem? (i := 85) rfl), fun h => absurd rfl h⟩
set_option maxRecDepth 100000 in
theorem zme_286 : zeOK (13, 274, 254, "") := ⟨zmd_254, rfl, fun _ => zsub_7 (List.mem_of_getElem? (i := 103) rfl), fun h => absurd rfl h⟩
set_option maxRecDepth 100000 in
theorem zme_287 : zeOK (13, 281, 258, "") := ⟨zmd_258, rfl, fun _ => zsub_7 (List.mem_of_getElem? (i := 124) rfl), fun h => absurd rfl h⟩
set_option maxRecDepth 100000 in
theorem zme_288 : zeOK (13, 284, 260, "") := ⟨zmd_260, rfl, fun _ => zsub_7 (List.mem_of_getElem? (i := 135) rfl), fun h => absurd rfl h⟩
set_option maxRecDepth 100000 in
theorem zme_289 : zeOK (13, 287, 259, "") := ⟨zmd_259, rfl, fun _ => zsub_7 (List.mem_of_getElem? (i := 120) rfl), fun h => absurd rfl h⟩
set_option maxRecDepth 100000 in
theorem zme_290 : zeOK (13, 290, 261, "") := ⟨zmd_261, rfl, fun _ => zsub_7 (List.mem_of_getElem? (i := 131) rfl), fun h => absurd rfl h⟩
set_option maxRecDepth 100000 in
theorem zme_291 : zeOK (13, 293, 264, "") := ⟨zmd_264, rfl, fun _ => zsub_7 (List.mem_of_getElem? (i := 143) rfl), fun h => absurd rfl h⟩
set_option maxRecDepth 100000 in
theorem zme_292 : zeOK (13, 296, 267, "") := ⟨zmd_267, rfl, fun _ => zsub_7 (List.mem_of_getElem? (i := 155) rfl), fun h => absurd rfl h⟩
set_option maxRecDepth 100000 in
theorem zme_293 : zeOK (13, 299, 269, "") := ⟨zmd_269, rfl, fun _ => zsub_7 (List.mem_of_getElem? (i := 162) rfl), fun h => absurd rfl h⟩
set_option maxRecDepth 100000 in
theorem zme_294 : zeOK (13, 306, 272, "") := ⟨zmd_272, rfl, fun _ => zsub_7 (List.mem_of_getElem? (i := 172) rfl), fun h => absurd rfl h⟩
set_option maxRecDepth 100000 in
theorem zme_295 : zeOK (13, 309, 271, "") := ⟨zmd_271, rfl, fun _ => zsub_7 (List.mem_of_getElem? (i := 176) rfl), fun h => absurd rfl h⟩
set_option maxRecDepth 100000 in
theorem zme_296 : zeOK (13, 326, 276, "") := ⟨zmd_276, rfl, fun _ => zsub_7 (List.mem_of_getElem? (i := 196) rfl), fun h => absurd rfl h⟩
set_option maxRecDepth 100000 in
theorem zme_297 : zeOK (13, 329, 275, "") := ⟨zmd_275, rfl, fun _ => zsub_7 (List.mem_of_getElem? (i := 199) rfl), fun h => absurd rfl h⟩
set_option maxRecDepth 100000 in
theorem zme_298 : zeOK (13, 333, 274, "") := ⟨zmd_274, rfl, fun _ => zsub_7 (List.mem_of_getElem? (i := 202) rfl), fun h => absurd rfl h⟩
set_option maxRecDepth 100000 in
theorem zme_299 : zeOK (13, 337, 278, "") := ⟨zmd_278, rfl, fun _ => zsub_7 (List.mem_of_getElem? (i := 216) rfl), fun h => absurd rfl h⟩
set_option maxRecDepth 100000 in
theorem zme_300 : zeOK (13, 340, 279, "") := ⟨zmd_279, rfl, fun _ => zsub_7 (List.mem_of_getElem? (i := 220) rfl), fun h => absurd rfl h⟩
set_option maxRecDepth 100000 in
theorem zme_301 : zeOK (13, 343, 277, "") := ⟨zmd_277, rfl, fun _ => zsub_7 (List.mem_of_getElem? (i := 192) rfl), fun h => absurd rfl h⟩
set_option maxRecDepth 100000 in
theorem zme_302 : zeOK (13, 346, 280, "") := ⟨zmd_280, rfl, fun _ => zsub_7 (List.mem_of_getElem? (i := 212) rfl), fun h => absurd rfl h⟩
set_option maxRecDepth 100000 in
theorem zme_303 : zeOK (13, 349, 281, "") := ⟨zmd_281, rfl, fun _ => zsub_7 (List.mem_of_getElem? (i := 224) rfl), fun h => absurd rfl h⟩
set_option maxRecDepth 100000 in
theorem zme_304 : zeOK (13, 353, 283, "") := ⟨zmd_283, rfl, fun _ => zsub_7 (List.mem_of_getElem? (i := 184) rfl), fun h => absurd rfl h⟩
set_option maxRecDepth 100000 in
theorem zme_305 : zeOK (13, 357, 282, "") := ⟨zmd_282, rfl, fun _ => zsub_7 (List.mem_of_getElem? (i := 188) rfl), fun h => absurd rfl h⟩
set_option maxRecDepth 100000 in
theorem zme_306 : zeOK (13, 368, 292, "") := ⟨zmd_292, rfl, fun _ => zsub_8 (List.mem_of_getElem? (i := 24) rfl), fun h => absurd rfl h⟩
set_option maxRecDepth 100000 in
theorem zme_307 : zeOK (13, 371, 294, "") := ⟨zmd_294, rfl, fun _ => zsub_8 (List.mem_of_getElem? (i := 32) rfl), fun h => absurd rfl h⟩
set_option maxRecDepth 100000 in
theorem zme_308 : zeOK (13, 379, 345, "") := ⟨zmd_345, rfl, fun _ => zsub_8 (List.mem_of_getElem? (i := 63) rfl), fun h => absurd rfl h⟩
set_option maxRecDepth 100000 in
theorem zme_309 : zeOK (13, 383, 346, "") := ⟨zmd_346, rfl, fun _ => zsub_8 (List.mem_of_getElem? (i := 64) rfl), fun h => absurd rfl h⟩
set_option maxRecDepth 100000 in
theorem zme_310 : zeOK (13, 390, 298, "") := ⟨zmd_298, rfl, fun _ => zsub_8 (List.mem_of_getElem? (i := 53) rfl), fun h => absurd rfl h⟩
set_option maxRecDepth 100000 in
theorem zme_311 : zeOK (13, 403, 299, "") := ⟨zmd_299, rfl, fun _ => zsub_8 (List.mem_of_getElem? (i := 59) rfl), fun h => absurd rfl h⟩
set_option maxRecDepth 100000 in
theorem zme_312 : zeOK (13, 414, 300, "") := ⟨zmd_300, rfl, fun _ => zsub_8 (List.mem_of_getElem? (i := 49) rfl), fun h => absurd rfl h⟩
set_option maxRecDepth 100000 in
theorem zme_313 : zeOK (13, 417, 302, "") := ⟨zmd_302, rfl, fun _ => zsub_8 (List.mem_of_getElem? (i := 76) rfl), fun h => absurd rfl h⟩
set_option maxRecDepth 100000 in
theorem zme_314 : zeOK (13, 420, 301, "") := ⟨zmd_301, rfl, fun _ => zsub_8 (List.mem_of_getElem? (i := 79) rfl), fun h => absurd rfl h⟩
set_option maxRecDepth 100000 in
theorem zme_315 : zeOK (13, 423, 303, "") := ⟨zmd_303, rfl, fun _ => zsub_8 (List.mem_of_getElem? (i := 72) rfl), fun h => absurd rfl h⟩
set_option maxRecDepth 100000 in
theorem zme_316 : zeOK (13, 426, 304, "") := ⟨zmd_304, rfl, fun _ => zsub_8 (List.mem_of_getElem? (i := 68) rfl), fun h => absurd rfl h⟩
set_option maxRecDepth 100000 in
theorem zme_317 : zeOK (13, 429, 305, "") := ⟨zmd_305, rfl, fun _ => zsub_8 (List.mem_of_getElem? (i := 83) rfl), fun h => absurd rfl h⟩
set_option maxRecDepth 100000 in
theorem zme_318 : zeOK (13, 438, 307, "") := ⟨zmd_307, rfl, fun _ => zsub_8 (List.mem_of_getElem? (i := 91) rfl), fun h => absurd rfl h⟩
set_option maxRecDepth 100000 in
theorem zme_319 : zeOK (13, 441, 309, "") := ⟨zmd_309, rfl, fun _ => zsub_8 (List.mem_of_getElem? (i := 99) rfl), fun h => absurd rfl h⟩
set_option maxRecDepth 100000 in
theorem zme_320 : zeOK (13, 446, 315, "") := ⟨zmd_315, rfl, fun _ => zsub_8 (List.mem_of_getElem? (i := 122) rfl), fun h => absurd rfl h⟩
set_option maxRecDepth 100000 in
theorem zme_321 : zeOK (13, 449, 318, "") := ⟨zmd_318, rfl, fun _ => zsub_8 (List.mem_of_getElem? (i := 126) rfl), fun h => absurd rfl h⟩
set_option maxRecDepth 100000 in
theorem zme_322 : zeOK (13, 452, 316, "") := ⟨zmd_316, rfl, fun _ => zsub_8 (List.mem_of_getElem? (i := 130) rfl), fun h => absurd rfl h⟩
set_option maxRecDepth 100000 in
theorem zme_323 : zeOK (13, 457, 319, "") := ⟨zmd_319, rfl, fun _ => zsub_8 (List.mem_of_getElem? (i := 139) rfl), fun h => absurd rfl h⟩
set_option maxRecDepth 100000 in
theorem zme_324 : zeOK (13, 460, 320, "") := ⟨zmd_320, rfl, fun _ => zsub_8 (List.mem_of_getElem? (i := 143) rfl), fun h => absurd rfl h⟩
set_option maxRecDepth 100000 in
theorem zme_325 : zeOK (13, 469, 323, "") := ⟨zmd_323, rfl, fun _ => zsub_8 (List.mem_of_getElem? (i := 155) rfl), fun h => absurd rfl h⟩
set_option maxRecDepth 100000 in
theorem zme_326 : zeOK (13, 472, 326, "") := ⟨zmd_326, rfl, fun _ => zsub_8 (List.mem_of_getElem? (i := 167) rfl), fun h => absurd rfl h⟩
set_option maxRecDepth 100000 in
theorem zme_327 : zeOK (13, 478, 330, "") := ⟨zmd_330, rfl, fun _ => zsub_8 (List.mem_of_getElem? (i := 184) rfl), fun h => absurd rfl h⟩
set_option maxRecDepth 100000 in
theorem zme_328 : zeOK (13, 481, 333, "") := ⟨zmd_333, rfl, fun _ => zsub_8 (List.mem_of_getElem? (i := 197) rfl), fun h => absurd rfl h⟩
set_option maxRecDepth 100000 in
theorem zme_329 : zeOK (13, 489, 336, "") := ⟨zmd_336, rfl, fun _ => zsub_8 (List.mem_of_getElem? (i := 208) rfl), fun h => absurd rfl h⟩
set_option maxRecDepth 100000 in
theorem zme_330 : zeOK (17, 335, 347, "") := ⟨zmd_347, rfl, fun _ => zsub_4 (List.mem_of_getElem? (i := 35) rfl), fun h => absurd rfl h⟩
set_option maxRecDepth 100000 in
theorem zme_331 : zeOK (17, 492, 348, "") := ⟨zmd_348, rfl, fun _ => zsub_4 (List.mem_of_getElem? (i := 45) rfl), fun h => absurd rfl h⟩
set_option maxRecDepth 100000 in
theorem zme_332 : zeOK (17, 495, 350, "") := ⟨zmd_350, rfl, fun _ => zsub_4 (List.mem_of_getElem? (i := 49) rfl), fun h => absurd rfl h⟩
set_option maxRecDepth 100000 in
theorem zme_333 : zeOK (17, 1059, 351, "") := ⟨zmd_351, rfl, fun _ => zsub_4 (List.mem_of_getElem? (i := 57) rfl), fun h => absurd rfl h⟩
set_option maxRecDepth 100000 in
theorem zme_334 : zeOK (18, 9, 349, "") := ⟨zmd_349, rfl, fun _ => zsub_4 (List.mem_of_getElem? (i := 52) rfl), fun h => absurd rfl h⟩
set_option maxRecDepth 100000 in
theorem zme_335 : zeOK (14, 9, 137, "") := ⟨zmd_137, rfl, fun _ => zsub_1 (List.mem_of_getElem? (i := 23) rfl), fun h => absurd rfl h⟩
set_option maxRecDepth 100000 in
theorem zme_336 : zeOK (14, 12, 212, "") := ⟨zmd_212, rfl, fun _ => zsub_6 (List.mem_of_getElem? (i := 54) rfl), fun h => absurd rfl h⟩
set_option maxRecDepth 100000 in
theorem zme_337 : zeOK (14, 13, 138, "") := ⟨zmd_138, rfl, fun _ => zsub_2 (List.mem_of_getElem? (i := 71) rfl), fun h => absurd rfl h⟩
set_option maxRecDepth 100000 in
theorem zme_338 : zeOK (14, 17, 308, "") := ⟨zmd_308, rfl, fun _ => zsub_8 (List.mem_of_getElem? (i := 87) rfl), fun h => absurd rfl h⟩
set_option maxRecDepth 100000 in
theorem zme_339 : zeOK (14, 20, 139, "") := ⟨zmd_139, rfl, fun _ => zsub_2 (List.mem_of_getElem? (i := 90) rfl), fun h => absurd rfl h⟩
set_option maxRecDepth 100000 in
theorem zme_340 : zeOK (14, 24, 310, "") := ⟨zmd_310, rfl, fun _ => zsub_8 (List.mem_of_getElem? (i := 95) rfl), fun h => absurd rfl h⟩
set_option maxRecDepth 100000 in
theorem zme_341 : zeOK (14, 25, 140, "") := ⟨zmd_140, rfl, fun _ => zsub_2 (List.mem_of_getElem? (i := 118) rfl), fun h => absurd rfl h⟩
set_option maxRecDepth 100000 in
theorem zme_342 : zeOK (14, 29, 311, "") := ⟨zmd_311, rfl, fun _ => zsub_8 (List.mem_of_getElem? (i := 102) rfl), fun h => absurd rfl h⟩
set_option maxRecDepth 100000 in
theorem zme_343 : zeOK (14, 30, 141, "") := ⟨zmd_141, rfl, fun _ => zsub_2 (List.mem_of_getElem? (i := 132) rfl), fun h => absurd rfl h⟩
set_option maxRecDepth 100000 in
theorem zme_344 : zeOK (14, 34, 312, "") := ⟨zmd_312, rfl, fun _ => zsub_8 (List.mem_of_getElem? (i := 106) rfl), fun h => absurd rfl h⟩
set_option maxRecDepth 100000 in
theorem zme_345 : zeOK (14, 35, 142, "") := ⟨zmd_142, rfl, fun _ => zsub_2 (List.mem_of_getElem? (i := 140) rfl), fun h => absurd rfl h⟩
set_option maxRecDepth 100000 in
theorem zme_346 : zeOK (14, 39, 313, "") := ⟨zmd_313, rfl, fun _ => zsub_8 (List.mem_of_getElem? (i := 110) rfl), fun h => absurd rfl h⟩
set_option maxRecDepth 100000 in
theorem zme_347 : zeOK (14, 40, 143, "") := ⟨zmd_143, rfl, fun _ => zsub_2 (List.mem_of_getElem? (i := 144) rfl), fun h => absurd rfl h⟩
set_option maxRecDepth 100000 in
theorem zme_348 : zeOK (14, 44, 314, "") := ⟨zmd_314, rfl, fun _ => zsub_8 (List.mem_of_getElem? (i := 114) rfl), fun h => absurd rfl h⟩
set_option maxRecDepth 100000 in
theorem zme_349 : zeOK (14, 45, 144, "") := ⟨zmd_144, rfl, fun _ => zsub_2 (List.mem_of_getElem? (i := 160) rfl), fun h => absurd rfl h⟩
set_option maxRecDepth 100000 in
theorem zme_350 : zeOK (14, 48, 317, "") := ⟨zmd_317, rfl, fun _ => zsub_8 (List.mem_of_getElem? (i := 118) rfl), fun h => absurd rfl h⟩
set_option maxRecDepth 100000 in
theorem zme_351 : zeOK (14, 49, 147, "") := ⟨zmd_147, rfl, fun _ => zsub_3 (List.mem_of_getElem? (i := 201) rfl), fun h => absurd rfl h⟩
set_option maxRecDepth 100000 in
theorem zme_352 : zeOK (14, 52, 296, "") := ⟨zmd_296, rfl, fun _ => zsub_8 (List.mem_of_getElem? (i := 36) rfl), fun h => absurd rfl h⟩
set_option maxRecDepth 100000 in
theorem zme_353 : zeOK (14, 53, 148, "") := ⟨zmd_148, rfl, fun _ => zsub_3 (List.mem_of_getElem? (i := 217) rfl), fun h => absurd rfl h⟩
set_option maxRecDepth 100000 in
theorem zme_354 : zeOK (14, 57, 297, "") := ⟨zmd_297, rfl, fun _ => zsub_8 (List.mem_of_getElem? (i := 41) rfl), fun h => absurd rfl h⟩
set_option maxRecDepth 100000 in
theorem zme_355 : zeOK (14, 58, 149, "") := ⟨zmd_149, rfl, fun _ => zsub_3 (List.mem_of_getElem? (i := 225) rfl), fun h => absurd rfl h⟩
set_option maxRecDepth 100000 in
theorem zme_356 : zeOK (14, 61, 306, "") := ⟨zmd_306, rfl, fun _ => zsub_8 (List.mem_of_getElem? (i := 45) rfl), fun h => absurd rfl h⟩
set_option maxRecDepth 100000 in
theorem zme_357 : zeOK (14, 62, 150, "") := ⟨zmd_150, rfl, fun _ => zsub_4 (List.mem_of_getElem? (i := 169) rfl), fun h => absurd rfl h⟩
set_option maxRecDepth 100000 in
theorem zme_358 : zeOK (14, 66, 284, "") := ⟨zmd_284, rfl, fun _ => zsub_7 (List.mem_of_getElem? (i := 180) rfl), fun h => absurd rfl h⟩
set_option maxRecDepth 100000 in
theorem zme_359 : zeOK (14, 67, 151, "") := ⟨zmd_151, rfl, fun _ => zsub_4 (List.mem_of_getElem? (i := 189) rfl), fun h => absurd rfl h⟩
set_option maxRecDepth 100000 in
theorem zme_360 : zeOK (14, 71, 285, "") := ⟨zmd_285, rfl, fun _ => zsub_7 (List.mem_of_getElem? (i := 228) rfl), fun h => absurd rfl h⟩
set_option maxRecDepth 100000 in
theorem zme_361 : zeOK (14, 72, 152, "") := ⟨zmd_152, rfl, fun _ => zsub_4 (List.mem_of_getElem? (i := 193) rfl), fun h => absurd rfl h⟩
set_option maxRecDepth 100000 in
theorem zme_362 : zeOK (14, 75, 286, "") := ⟨zmd_286, rfl, fun _ => zsub_7 (List.mem_of_getElem? (i := 232) rfl), fun h => absurd rfl h⟩
set_option maxRecDepth 100000 in
theorem zme_363 : zeOK (14, 76, 153, "") := ⟨zmd_153, rfl, fun _ => zsub_4 (List.mem_of_getElem? (i := 197) rfl), fun h => absurd rfl h⟩
set_option maxRecDepth 100000 in
theorem zme_364 : zeOK (14, 79, 287, "") := ⟨zmd_287, rfl, fun _ => zsub_7 (List.mem_of_getElem? (i := 236) rfl), fun h => absurd rfl h⟩
set_option maxRecDepth 100000 in
theorem zme_365 : zeOK (14, 80, 154, "") := ⟨zmd_154, rfl, fun _ => zsub_4 (List.mem_of_getElem? (i := 201) rfl), fun h => absurd rfl h⟩
set_option maxRecDepth 100000 in
theorem zme_366 : zeOK (14, 83, 288, "") := ⟨zmd_288, rfl, fun _ => zsub_8 (List.mem_of_getElem? (i := 2) rfl), fun h => absurd rfl h⟩
set_option maxRecDepth 100000 in
theorem zme_367 : zeOK (14, 84, 155, "") := ⟨zmd_155, rfl, fun _ => zsub_4 (List.mem_of_getElem? (i := 205) rfl), fun h => absurd rfl h⟩
set_option maxRecDepth 100000 in
theorem zme_368 : zeOK (14, 87, 289, "") := ⟨zmd_289, rfl, fun _ => zsub_8 (List.mem_of_getElem? (i := 6) rfl), fun h => absurd rfl h⟩
set_option maxRecDepth 100000 in
theorem zme_369 : zeOK (14, 88, 156, "") := ⟨zmd_156, rfl, fun _ => zsub_4 (List.mem_of_getElem? (i := 209) rfl), fun h => absurd rfl h⟩
set_option maxRecDepth 100000 in
theorem zme_370 : zeOK (14, 91, 290, "") := ⟨zmd_290, rfl, fun _ => zsub_8 (List.mem_of_getElem? (i := 10) rfl), fun h => absurd rfl h⟩
set_option maxRecDepth 100000 in
theorem zme_371 : zeOK (14, 92, 157, "") := ⟨zmd_157, rfl, fun _ => zsub_4 (List.mem_of_getElem? (i := 213) rfl), fun h => absurd rfl h⟩
set_option maxRecDepth 100000 in
theorem zme_372 : zeOK (14, 95, 291, "") := ⟨zmd_291, rfl, fun _ => zsub_8 (List.mem_of_getElem? (i := 15) rfl), fun h => absurd rfl h⟩
set_option maxRecDepth 100000 in
theorem zme_373 : zeOK (14, 96, 161, "") := ⟨zmd_161, rfl, fun _ => zsub_4 (List.mem_of_getElem? (i := 217) rfl), fun h => absurd rfl h⟩
set_option maxRecDepth 100000 in
theorem zme_374 : zeOK (14, 99, 293, "") := ⟨zmd_293, rfl, fun _ => zsub_8 (List.mem_of_getElem? (i := 20) rfl), fun h => absurd rfl h⟩
set_option maxRecDepth 100000 in
theorem zme_375 : zeOK (14, 100, 162, "") := ⟨zmd_162, rfl, fun _ => zsub_4 (List.mem_of_getElem? (i := 226) rfl), fun h => absurd rfl h⟩
set_option maxRecDepth 100000 in
theorem zme_376 : zeOK (14, 103, 295, "") := ⟨zmd_295, rfl, fun _ => zsub_8 (List.mem_of_getElem? (i := 28) rfl), fun h => absurd rfl h⟩
set_option maxRecDepth 100000 in
theorem zme_377 : zeOK (14, 104, 163, "") := ⟨zmd_163, rfl, fun _ => zsub_4 (List.mem_of_getElem? (i := 231) rfl), fun h => absurd rfl h⟩
set_option maxRecDepth 100000 in
theorem zme_378 : zeOK (14, 108, 227, "") := ⟨zmd_227, rfl, fun _ => zsub_6 (List.mem_of_getElem? (i := 173) rfl), fun h => absurd rfl h⟩
set_option maxRecDepth 100000 in
theorem zme_379 : zeOK (14, 109, 164, "") := ⟨zmd_164, rfl, fun _ => zsub_5 (List.mem_of_getElem? (i := 8) rfl), fun h => absurd rfl h⟩
set_option maxRecDepth 100000 in
theorem zme_380 : zeOK (14, 113, 247, "") := ⟨zmd_247, rfl, fun _ => zsub_7 (List.mem_of_getElem? (i := 2) rfl), fun h => absurd rfl h⟩
set_option maxRecDepth 100000 in
theorem zme_381 : zeOK (14, 114, 165, "") := ⟨zmd_165, rfl, fun _ => zsub_5 (List.mem_of_getElem? (i := 22) rfl), fun h => absurd rfl h⟩
set_option maxRecDepth 100000 in
theorem zme_382 : zeOK (14, 117, 250, "") := ⟨zmd_250, rfl, fun _ => zsub_7 (List.mem_of_getElem? (i := 73) rfl), fun h => absurd rfl h⟩
set_option maxRecDepth 100000 in
theorem zme_383 : zeOK (14, 118, 166, "") := ⟨zmd_166, rfl, fun _ => zsub_5 (List.mem_of_getElem? (i := 30) rfl), fun h => absurd rfl h⟩
set_option maxRecDepth 100000 in
theorem zme_384 : zeOK (14, 121, 252, "") := ⟨zmd_252, rfl, fun _ => zsub_7 (List.mem_of_getElem? (i := 81) rfl), fun h => absurd rfl h⟩
set_option maxRecDepth 100000 in
theorem zme_385 : zeOK (14, 122, 167, "") := ⟨zmd_167, rfl, fun _ => zsub_5 (List.mem_of_getElem? (i := 39) rfl), fun h => absurd rfl h⟩
set_option maxRecDepth 100000 in
theorem zme_386 : zeOK (14, 125, 253, "") := ⟨zmd_253, rfl, fun _ => zsub_7 (List.mem_of_getElem? (i := 93) rfl), fun h => absurd rfl h⟩
set_option maxRecDepth 100000 in
theorem zme_387 : zeOK (14, 126, 168, "") := ⟨zmd_168, rfl, fun _ => zsub_5 (List.mem_of_getElem? (i := 48) rfl), fun h => absurd rfl h⟩
set_option maxRecDepth 100000 in
theorem zme_388 : zeOK (14, 129, 255, "") := ⟨zmd_255, rfl, fun _ => zsub_7 (List.mem_of_getElem? (i := 97) rfl), fun h => absurd rfl h⟩
set_option maxRecDepth 100000 in
theorem zme_389 : zeOK (14, 130, 169, "") := ⟨zmd_169, rfl, fun _ => zsub_5 (List.mem_of_getElem? (i := 57) rfl), fun h => absurd rfl h⟩
set_option maxRecDepth 100000 in
theorem zme_390 : zeOK (14, 133, 256, "") := ⟨zmd_256, rfl, fun _ => zsub_7 (List.mem_of_getElem? (i := 106) rfl), fun h => absurd rfl h⟩
set_option maxRecDepth 100000 in
theorem zme_391 : zeOK (14, 134, 170, "") := ⟨zmd_170, rfl, fun _ => zsub_5 (List.mem_of_getElem? (i := 61) rfl), fun h => absurd rfl h⟩
set_option maxRecDepth 100000 in
theorem zme_392 : zeOK (14, 137, 257, "") := ⟨zmd_257, rfl, fun _ => zsub_7 (List.mem_of_getElem? (i := 110) rfl), fun h => absurd rfl h⟩
set_option maxRecDepth 100000 in
theorem zme_393 : zeOK (14, 138, 171, "") := ⟨zmd_171, rfl, fun _ => zsub_5 (List.mem_of_getElem? (i := 88) rfl), fun h => absurd rfl h⟩
set_option maxRecDepth 100000 in
theorem zme_394 : zeOK (14, 141, 262, "") := ⟨zmd_262, rfl, fun _ => zsub_7 (List.mem_of_getElem? (i := 116) rfl), fun h => absurd rfl h⟩
set_option maxRecDepth 100000 in
theorem zme_395 : zeOK (14, 142, 172, "") := ⟨zmd_172, rfl, fun _ => zsub_5 (List.mem_of_getElem? (i := 102) rfl), fun h => absurd rfl h⟩
set_option maxRecDepth 100000 in
theorem zme_396 : zeOK (14, 145, 263, "") := ⟨zmd_263, rfl, fun _ => zsub_7 (List.mem_of_getElem? (i := 127) rfl), fun h => absurd rfl h⟩
set_option maxRecDepth 100000 in
theorem zme_397 : zeOK (14, 146, 174, "") := ⟨zmd_174, rfl, fun _ => zsub_5 (List.mem_of_getElem? (i := 133) rfl), fun h => absurd rfl h⟩
set_option maxRecDepth 100000 in
theorem zme_398 : zeOK (14, 149, 265, "") := ⟨zmd_265, rfl, fun _ => zsub_7 (List.mem_of_getElem? (i := 139) rfl), fun h => absurd rfl h⟩
set_option maxRecDepth 100000 in
theorem zme_399 : zeOK (14, 150, 175, "") := ⟨zmd_175, rfl, fun _ => zsub_5 (List.mem_of_getElem? (i := 137) rfl), fun h => absurd rfl h⟩
set_option maxRecDepth 100000 in
theorem zme_400 : zeOK (14, 153, 266, "") := ⟨zmd_266, rfl, fun _ => zsub_7 (List.mem_of_getElem? (i := 147) rfl), fun h => absurd rfl h⟩
set_option maxRecDepth 100000 in
theorem zme_401 : zeOK (14, 154, 173, "") := ⟨zmd_173, rfl, fun _ => zsub_5 (List.mem_of_getElem? (i := 128) rfl), fun h => absurd rfl h⟩
set_option maxRecDepth 100000 in
theorem zme_402 : zeOK (14, 157, 268, "") := ⟨zmd_268, rfl, fun _ => zsub_7 (List.mem_of_getElem? (i := 151) rfl), fun h => absurd rfl h⟩
set_option maxRecDepth 100000 in
theorem zme_403 : zeOK (14, 158, 176, "") := ⟨zmd_176, rfl, fun _ => zsub_5 (List.mem_of_getElem? (i := 141) rfl), fun h => absurd rfl h⟩
set_option maxRecDepth 100000 in
theorem zme_404 : zeOK (14, 161, 270, "") := ⟨zmd_270, rfl, fun _ => zsub_7 (List.mem_of_getElem? (i := 158) rfl), fun h => absurd rfl h⟩
set_option maxRecDepth 100000 in
theorem zme_405 : zeOK (14, 162, 178, "") := ⟨zmd_178, rfl, fun _ => zsub_5 (List.mem_of_getElem? (i := 148) rfl), fun h => absurd rfl h⟩
set_option maxRecDepth 100000 in
theorem zme_406 : zeOK (14, 165, 273, "") := ⟨zmd_273, rfl, fun _ => zsub_7 (List.mem_of_getElem? (i := 166) rfl), fun h => absurd rfl h⟩
set_option maxRecDepth 100000 in
theorem zme_407 : zeOK (14, 166, 180, "") := ⟨zmd_180, rfl, fun _ => zsub_5 (List.mem_of_getElem? (i := 160) rfl), fun h => absurd rfl h⟩
set_option maxRecDepth 100000 in
theorem zme_408 : zeOK (14, 169, 321, "") := ⟨zmd_321, rfl, fun _ => zsub_8 (List.mem_of_getElem? (i := 134) rfl), fun h => absurd rfl h⟩
set_option maxRecDepth 100000 in
theorem zme_409 : zeOK (14, 170, 183, "") := ⟨zmd_183, rfl, fun _ => zsub_5 (List.mem_of_getElem? (i := 179) rfl), fun h => absurd rfl h⟩
set_option maxRecDepth 100000 in
theorem zme_410 : zeOK (14, 173, 322, "") := ⟨zmd_322, rfl, fun _ => zsub_8 (List.mem_of_getElem? (i := 147) rfl), fun h => absurd rfl h⟩
set_option maxRecDepth 100000 in
theorem zme_411 : zeOK (14, 174, 184, "") := ⟨zmd_184, rfl, fun _ => zsub_5 (List.mem_of_getElem? (i := 183) rfl), fun h => absurd rfl h⟩
set_option maxRecDepth 100000 in
theorem zme_412 : zeOK (14, 177, 324, "") := ⟨zmd_324, rfl, fun _ => zsub_8 (List.mem_of_getElem? (i := 151) rfl), fun h => absurd rfl h⟩
set_option maxRecDepth 100000 in
theorem zme_413 : zeOK (14, 178, 185, "") := ⟨zmd_185, rfl, fun _ => zsub_5 (List.mem_of_getElem? (i := 203) rfl), fun h => absurd rfl h⟩
set_option maxRecDepth 100000 in
theorem zme_414 : zeOK (14, 181, 325, "") := ⟨zmd_325, rfl, fun _ => zsub_8 (List.mem_of_getElem? (i := 159) rfl), fun h => absurd rfl h⟩
set_option maxRecDepth 100000 in
theorem zme_415 : zeOK (14, 182, 186, "") := ⟨zmd_186, rfl, fun _ => zsub_5 (List.mem_of_getElem? (i := 215) rfl), fun h => absurd rfl h⟩
set_option maxRecDepth 100000 in
theorem zme_416 : zeOK (14, 185, 327, "") := ⟨zmd_327, rfl, fun _ => zsub_8 (List.mem_of_getElem? (i := 163) rfl), fun h => absurd rfl h⟩
set_option maxRecDepth 100000 in
theorem zme_417 : zeOK (14, 186, 187, "") := ⟨zmd_187, rfl, fun _ => zsub_5 (List.mem_of_getElem? (i := 223) rfl), fun h => absurd rfl h⟩
set_option maxRecDepth 100000 in
theorem zme_418 : zeOK (14, 189, 328, "") := ⟨zmd_328, rfl, fun _ => zsub_8 (List.mem_of_getElem? (i := 171) rfl), fun h => absurd rfl h⟩
set_option maxRecDepth 100000 in
theorem zme_419 : zeOK (14, 190, 188, "") := ⟨zmd_188, rfl, fun _ => zsub_5 (List.mem_of_getElem? (i := 227) rfl), fun h => absurd rfl h⟩
set_option maxRecDepth 100000 in
theorem zme_420 : zeOK (14, 193, 329, "") := ⟨zmd_329, rfl, fun _ => zsub_8 (List.mem_of_getElem? (i := 175) rfl), fun h => absurd rfl h⟩
set_option maxRecDepth 100000 in
theorem zme_421 : zeOK (14, 194, 189, "") := ⟨zmd_189, rfl, fun _ => zsub_5 (List.mem_of_getElem? (i := 231) rfl), fun h => absurd rfl h⟩
set_option maxRecDepth 100000 in
theorem zme_422 : zeOK (14, 197, 331, "") := ⟨zmd_331, rfl, fun _ => zsub_8 (List.mem_of_getElem? (i := 179) rfl), fun h => absurd rfl h⟩
set_option maxRecDepth 100000 in
theorem zme_423 : zeOK (14, 198, 190, "") := ⟨zmd_190, rfl, fun _ => zsub_6 (List.mem_of_getElem? (i := 7) rfl), fun h => absurd rfl h⟩
set_option maxRecDepth 100000 in
theorem zme_424 : zeOK (14, 201, 332, "") := ⟨zmd_332, rfl, fun _ => zsub_8 (List.mem_of_getElem? (i := 189) rfl), fun h => absurd rfl h⟩
set_option maxRecDepth 100000 in
theorem zme_425 : zeOK (14, 202, 191, "") := ⟨zmd_191, rfl, fun _ => zsub_6 (List.mem_of_getElem? (i := 19) rfl), fun h => absurd rfl h⟩
set_option maxRecDepth 100000 in
theorem zme_426 : zeOK (14, 205, 334, "") := ⟨zmd_334, rfl, fun _ => zsub_8 (List.mem_of_getElem? (i := 193) rfl), fun h => absurd rfl h⟩
set_option maxRecDepth 100000 in
theorem zme_427 : zeOK (14, 206, 192, "") := ⟨zmd_192, rfl, fun _ => zsub_6 (List.mem_of_getElem? (i := 36) rfl), fun h => absurd rfl h⟩
set_option maxRecDepth 100000 in
theorem zme_428 : zeOK (14, 209, 335, "") := ⟨zmd_335, rfl, fun _ => zsub_8 (List.mem_of_getElem? (i := 200) rfl), fun h => absurd rfl h⟩
set_option maxRecDepth 100000 in
theorem zme_429 : zeOK (14, 210, 193, "") := ⟨zmd_193, rfl, fun _ => zsub_6 (List.mem_of_getElem? (i := 40) rfl), fun h => absurd rfl h⟩
set_option maxRecDepth 100000 in
theorem zme_430 : zeOK (14, 213, 337, "") := ⟨zmd_337, rfl, fun _ => zsub_8 (List.mem_of_getElem? (i := 204) rfl), fun h => absurd rfl h⟩
noncomputable def zmes_c0 : List zMe := [(1, 9, 48, "RaysOfShapes"), (1, 34, 339, ""), (1, 40, 55, ""), (1, 44, 56, ""), (1, 48, 343, ""), (1, 51, 57, ""), (1, 55, 53, ""), (2, 16, 340, ""), (2, 22, 15, ""), (2, 26, 18, ""), (2, 30, 17, ""), (3, 18, 29, ""), (3, 22, 31, ""), (3, 26, 32, ""), (3, 30, 200, "RaysOfShapes"), (3, 34, 203, "RaysOfShapes")]
theorem zmes_r0 : ∀ q ∈ zmes_c0, zeOK q := List.forall_mem_cons.mpr ⟨zme_0, List.forall_mem_cons.mpr ⟨zme_1, List.forall_mem_cons.mpr ⟨zme_2, List.forall_mem_cons.mpr ⟨zme_3, List.forall_mem_cons.mpr ⟨zme_4, List.forall_mem_cons.mpr ⟨zme_5, List.forall_mem_cons.mpr ⟨zme_6, List.forall_mem_cons.mpr ⟨zme_7, List.forall_mem_cons.mpr ⟨zme_8, List.forall_mem_cons.mpr ⟨zme_9, List.forall_mem_cons.mpr ⟨zme_10, List.forall_mem_cons.mpr ⟨zme_11, List.forall_mem_cons.mpr ⟨zme_12, List.forall_mem_cons.mpr ⟨zme_13, List.forall_mem_cons.mpr ⟨zme_14, List.forall_mem_cons.mpr ⟨zme_15, fun _ h => absurd h List.not_mem_nil⟩⟩⟩⟩⟩⟩⟩⟩⟩⟩⟩⟩⟩⟩⟩⟩
noncomputable def zmes_c1 : List zMe := [(4, 21, 48, "RaysOfShapes"), (4, 28, 41, ""), (4, 35, 92, ""), (4, 40, 341, ""), (4, 46, 52, ""), (4, 49, 39, ""), (4, 53, 37, ""), (4, 57, 209, "RaysOfShapes"), (4, 60, 42, ""), (4, 64, 13, ""), (4, 70, 50, ""), (4, 74, 93, ""), (4, 78, 94, ""), (4, 81, 97, ""), (4, 85, 96, ""), (4, 89, 51, "")]
theorem zmes_r1 : ∀ q ∈ zmes_c1, zeOK q := List.forall_mem_cons.mpr ⟨zme_16, List.forall_mem_cons.mpr ⟨zme_17, List.forall_mem_cons.mpr ⟨zme_18, List.forall_mem_cons.mpr ⟨zme_19, List.forall_mem_cons.mpr ⟨zme_20, List.forall_mem_cons.mpr ⟨zme_21, List.forall_mem_cons.mpr ⟨zme_22, List.forall_mem_cons.mpr ⟨zme_23, List.forall_mem_cons.mpr ⟨zme_24, List.forall_mem_cons.mpr ⟨zme_25, List.forall_mem_cons.mpr ⟨zme_26, List.forall_mem_cons.mpr ⟨zme_27, List.forall_mem_cons.mpr ⟨zme_28, List.forall_mem_cons.mpr ⟨zme_29, List.forall_mem_cons.mpr ⟨zme_30, List.forall_mem_cons.mpr ⟨zme_31, fun _ h => absurd h List.not_mem_nil⟩⟩⟩⟩⟩⟩⟩⟩⟩⟩⟩⟩⟩⟩⟩⟩
noncomputable def zmes_c2 : List zMe := [(4, 93, 95, ""), (4, 96, 40, ""), (4, 99, 208, "RaysOfShapes"), (5, 21, 10, "RaysOfShapes"), (5, 22, 43, ""), (5, 26, 112, ""), (5, 32, 27, ""), (5, 38, 44, ""), (5, 42, 16, ""), (5, 46, 28, ""), (5, 49, 45, ""), (5, 52, 46, ""), (5, 56, 118, ""), (5, 60, 341, ""), (5, 65, 113, ""), (5, 68, 114, "")]
theorem zmes_r2 : ∀ q ∈ zmes_c2, zeOK q := List.forall_mem_cons.mpr ⟨zme_32, List.forall_mem_cons.mpr ⟨zme_33, List.forall_mem_cons.mpr ⟨zme_34, List.forall_mem_cons.mpr ⟨zme_35, List.forall_mem_cons.mpr ⟨zme_36, List.forall_mem_cons.mpr ⟨zme_37, List.forall_mem_cons.mpr ⟨zme_38, List.forall_mem_cons.mpr ⟨zme_39, List.forall_mem_cons.mpr ⟨zme_40, List.forall_mem_cons.mpr ⟨zme_41, List.forall_mem_cons.mpr ⟨zme_42, List.forall_mem_cons.mpr ⟨zme_43, List.forall_mem_cons.mpr ⟨zme_44, List.forall_mem_cons.mpr ⟨zme_45, List.forall_mem_cons.mpr ⟨zme_46, List.forall_mem_cons.mpr ⟨zme_47, fun _ h => absurd h List.not_mem_nil⟩⟩⟩⟩⟩⟩⟩⟩⟩⟩⟩⟩⟩⟩⟩⟩
noncomputable def zmes_c3 : List zMe := [(5, 71, 18, ""), (5, 75, 19, ""), (5, 78, 20, ""), (5, 81, 22, ""), (5, 84, 25, ""), (5, 88, 47, ""), (5, 92, 23, ""), (5, 95, 24, ""), (5, 99, 339, ""), (5, 102, 203, "RaysOfShapes"), (6, 15, 202, "RaysOfShapes"), (6, 19, 208, "RaysOfShapes"), (6, 23, 50, ""), (6, 27, 52, ""), (6, 30, 341, ""), (6, 36, 343, "")]
theorem zmes_r3 : ∀ q ∈ zmes_c3, zeOK q := List.forall_mem_cons.mpr ⟨zme_48, List.forall_mem_cons.mpr ⟨zme_49, List.forall_mem_cons.mpr ⟨zme_50, List.forall_mem_cons.mpr ⟨zme_51, List.forall_mem_cons.mpr ⟨zme_52, List.forall_mem_cons.mpr ⟨zme_53, List.forall_mem_cons.mpr ⟨zme_54, List.forall_mem_cons.mpr ⟨zme_55, List.forall_mem_cons.mpr ⟨zme_56, List.forall_mem_cons.mpr ⟨zme_57, List.forall_mem_cons.mpr ⟨zme_58, List.forall_mem_cons.mpr ⟨zme_59, List.forall_mem_cons.mpr ⟨zme_60, List.forall_mem_cons.mpr ⟨zme_61, List.forall_mem_cons.mpr ⟨zme_62, List.forall_mem_cons.mpr ⟨zme_63, fun _ h => absurd h List.not_mem_nil⟩⟩⟩⟩⟩⟩⟩⟩⟩⟩⟩⟩⟩⟩⟩⟩
noncomputable def zmes_c4 : List zMe := [(6, 41, 338, ""), (6, 47, 49, ""), (7, 46, 69, ""), (7, 50, 75, ""), (7, 53, 77, ""), (7, 57, 73, ""), (7, 61, 29, ""), (7, 67, 79, ""), (7, 71, 27, ""), (7, 74, 72, ""), (7, 78, 71, ""), (7, 82, 76, ""), (7, 85, 70, ""), (7, 94, 343, ""), (7, 100, 28, ""), (7, 103, 119, "")]
theorem zmes_r4 : ∀ q ∈ zmes_c4, zeOK q := List.forall_mem_cons.mpr ⟨zme_64, List.forall_mem_cons.mpr ⟨zme_65, List.forall_mem_cons.mpr ⟨zme_66, List.forall_mem_cons.mpr ⟨zme_67, List.forall_mem_cons.mpr ⟨zme_68, List.forall_mem_cons.mpr ⟨zme_69, List.forall_mem_cons.mpr ⟨zme_70, List.forall_mem_cons.mpr ⟨zme_71, List.forall_mem_cons.mpr ⟨zme_72, List.forall_mem_cons.mpr ⟨zme_73, List.forall_mem_cons.mpr ⟨zme_74, List.forall_mem_cons.mpr ⟨zme_75, List.forall_mem_cons.mpr ⟨zme_76, List.forall_mem_cons.mpr ⟨zme_77, List.forall_mem_cons.mpr ⟨zme_78, List.forall_mem_cons.mpr ⟨zme_79, fun _ h => absurd h List.not_mem_nil⟩⟩⟩⟩⟩⟩⟩⟩⟩⟩⟩⟩⟩⟩⟩⟩
noncomputable def zmes_c5 : List zMe := [(7, 109, 110, ""), (7, 111, 122, ""), (7, 114, 74, ""), (7, 117, 200, "RaysOfShapes"), (7, 120, 34, ""), (7, 124, 78, ""), (7, 128, 345, ""), (7, 133, 346, ""), (7, 137, 33, ""), (7, 140, 31, ""), (8, 22, 201, "RaysOfShapes"), (8, 26, 200, "RaysOfShapes"), (8, 30, 87, ""), (8, 34, 90, ""), (9, 24, 10, "RaysOfShapes"), (9, 25, 98, "")]
theorem zmes_r5 : ∀ q ∈ zmes_c5, zeOK q := List.forall_mem_cons.mpr ⟨zme_80, List.forall_mem_cons.mpr ⟨zme_81, List.forall_mem_cons.mpr ⟨zme_82, List.forall_mem_cons.mpr ⟨zme_83, List.forall_mem_cons.mpr ⟨zme_84, List.forall_mem_cons.mpr ⟨zme_85, List.forall_mem_cons.mpr ⟨zme_86, List.forall_mem_cons.mpr ⟨zme_87, List.forall_mem_cons.mpr ⟨zme_88, List.forall_mem_cons.mpr ⟨zme_89, List.forall_mem_cons.mpr ⟨zme_90, List.forall_mem_cons.mpr ⟨zme_91, List.forall_mem_cons.mpr ⟨zme_92, List.forall_mem_cons.mpr ⟨zme_93, List.forall_mem_cons.mpr ⟨zme_94, List.forall_mem_cons.mpr ⟨zme_95, fun _ h => absurd h List.not_mem_nil⟩⟩⟩⟩⟩⟩⟩⟩⟩⟩⟩⟩⟩⟩⟩⟩
noncomputable def zmes_c6 : List zMe := [(9, 29, 112, ""), (9, 35, 99, ""), (9, 38, 100, ""), (9, 41, 101, ""), (9, 44, 102, ""), (9, 47, 103, ""), (9, 50, 118, ""), (9, 54, 343, ""), (9, 59, 341, ""), (9, 62, 16, ""), (9, 67, 113, ""), (9, 70, 114, ""), (9, 73, 18, ""), (9, 77, 19, ""), (9, 80, 20, ""), (9, 83, 22, "")]
theorem zmes_r6 : ∀ q ∈ zmes_c6, zeOK q := List.forall_mem_cons.mpr ⟨zme_96, List.forall_mem_cons.mpr ⟨zme_97, List.forall_mem_cons.mpr ⟨zme_98, List.forall_mem_cons.mpr ⟨zme_99, List.forall_mem_cons.mpr ⟨zme_100, List.forall_mem_cons.mpr ⟨zme_101, List.forall_mem_cons.mpr ⟨zme_102, List.forall_mem_cons.mpr ⟨zme_103, List.forall_mem_cons.mpr ⟨zme_104, List.forall_mem_cons.mpr ⟨zme_105, List.forall_mem_cons.mpr ⟨zme_106, List.forall_mem_cons.mpr ⟨zme_107, List.forall_mem_cons.mpr ⟨zme_108, List.forall_mem_cons.mpr ⟨zme_109, List.forall_mem_cons.mpr ⟨zme_110, List.forall_mem_cons.mpr ⟨zme_111, fun _ h => absurd h List.not_mem_nil⟩⟩⟩⟩⟩⟩⟩⟩⟩⟩⟩⟩⟩⟩⟩⟩
noncomputable def zmes_c7 : List zMe := [(9, 86, 25, ""), (9, 90, 105, ""), (9, 94, 104, ""), (9, 98, 24, ""), (9, 102, 13, ""), (9, 106, 14, ""), (9, 109, 23, ""), (9, 112, 15, ""), (9, 116, 21, ""), (9, 119, 203, "RaysOfShapes"), (9, 123, 106, ""), (9, 126, 107, ""), (9, 129, 108, ""), (9, 132, 339, ""), (10, 37, 120, ""), (10, 41, 121, "")]
theorem zmes_r7 : ∀ q ∈ zmes_c7, zeOK q := List.forall_mem_cons.mpr ⟨zme_112, List.forall_mem_cons.mpr ⟨zme_113, List.forall_mem_cons.mpr ⟨zme_114, List.forall_mem_cons.mpr ⟨zme_115, List.forall_mem_cons.mpr ⟨zme_116, List.forall_mem_cons.mpr ⟨zme_117, List.forall_mem_cons.mpr ⟨zme_118, List.forall_mem_cons.mpr ⟨zme_119, List.forall_mem_cons.mpr ⟨zme_120, List.forall_mem_cons.mpr ⟨zme_121, List.forall_mem_cons.mpr ⟨zme_122, List.forall_mem_cons.mpr ⟨zme_123, List.forall_mem_cons.mpr ⟨zme_124, List.forall_mem_cons.mpr ⟨zme_125, List.forall_mem_cons.mpr ⟨zme_126, List.forall_mem_cons.mpr ⟨zme_127, fun _ h => absurd h List.not_mem_nil⟩⟩⟩⟩⟩⟩⟩⟩⟩⟩⟩⟩⟩⟩⟩⟩
noncomputable def zmes_c8 : List zMe := [(10, 44, 27, ""), (10, 50, 115, ""), (10, 54, 341, ""), (10, 60, 117, ""), (10, 63, 116, ""), (11, 11, 48, "RaysOfShapes"), (11, 41, 49, ""), (11, 45, 211, "RaysOfShapes"), (11, 49, 133, ""), (11, 53, 134, ""), (11, 57, 52, ""), (11, 60, 136, ""), (11, 64, 50, ""), (12, 11, 109, "RaysOfShapes"), (12, 21, 0, ""), (12, 31, 80, "")]
theorem zmes_r8 : ∀ q ∈ zmes_c8, zeOK q := List.forall_mem_cons.mpr ⟨zme_128, List.forall_mem_cons.mpr ⟨zme_129, List.forall_mem_cons.mpr ⟨zme_130, List.forall_mem_cons.mpr ⟨zme_131, List.forall_mem_cons.mpr ⟨zme_132, List.forall_mem_cons.mpr ⟨zme_133, List.forall_mem_cons.mpr ⟨zme_134, List.forall_mem_cons.mpr ⟨zme_135, List.forall_mem_cons.mpr ⟨zme_136, List.forall_mem_cons.mpr ⟨zme_137, List.forall_mem_cons.mpr ⟨zme_138, List.forall_mem_cons.mpr ⟨zme_139, List.forall_mem_cons.mpr ⟨zme_140, List.forall_mem_cons.mpr ⟨zme_141, List.forall_mem_cons.mpr ⟨zme_142, List.forall_mem_cons.mpr ⟨zme_143, fun _ h => absurd h List.not_mem_nil⟩⟩⟩⟩⟩⟩⟩⟩⟩⟩⟩⟩⟩⟩⟩⟩
noncomputable def zmes_c9 : List zMe := [(12, 38, 62, "RaysOfShapes"), (12, 45, 35, ""), (12, 52, 124, "RaysOfShapes"), (12, 59, 41, ""), (12, 66, 92, ""), (12, 73, 48, "RaysOfShapes"), (12, 88, 201, ""), (12, 92, 200, ""), (12, 96, 194, ""), (12, 100, 84, ""), (12, 104, 195, ""), (12, 107, 82, ""), (12, 110, 89, ""), (12, 114, 81, ""), (12, 117, 206, ""), (12, 120, 91, "")]
theorem zmes_r9 : ∀ q ∈ zmes_c9, zeOK q := List.forall_mem_cons.mpr ⟨zme_144, List.forall_mem_cons.mpr ⟨zme_145, List.forall_mem_cons.mpr ⟨zme_146, List.forall_mem_cons.mpr ⟨zme_147, List.forall_mem_cons.mpr ⟨zme_148, List.forall_mem_cons.mpr ⟨zme_149, List.forall_mem_cons.mpr ⟨zme_150, List.forall_mem_cons.mpr ⟨zme_151, List.forall_mem_cons.mpr ⟨zme_152, List.forall_mem_cons.mpr ⟨zme_153, List.forall_mem_cons.mpr ⟨zme_154, List.forall_mem_cons.mpr ⟨zme_155, List.forall_mem_cons.mpr ⟨zme_156, List.forall_mem_cons.mpr ⟨zme_157, List.forall_mem_cons.mpr ⟨zme_158, List.forall_mem_cons.mpr ⟨zme_159, fun _ h => absurd h List.not_mem_nil⟩⟩⟩⟩⟩⟩⟩⟩⟩⟩⟩⟩⟩⟩⟩⟩
noncomputable def zmes_c10 : List zMe := [(12, 124, 88, ""), (12, 128, 197, ""), (12, 131, 85, ""), (12, 135, 145, ""), (12, 139, 113, ""), (12, 142, 114, ""), (12, 145, 115, ""), (12, 148, 198, ""), (12, 152, 57, ""), (12, 156, 59, ""), (12, 160, 58, ""), (12, 163, 146, ""), (12, 166, 112, ""), (12, 169, 26, ""), (12, 175, 118, ""), (12, 178, 65, "")]
theorem zmes_r10 : ∀ q ∈ zmes_c10, zeOK q := List.forall_mem_cons.mpr ⟨zme_160, List.forall_mem_cons.mpr ⟨zme_161, List.forall_mem_cons.mpr ⟨zme_162, List.forall_mem_cons.mpr ⟨zme_163, List.forall_mem_cons.mpr ⟨zme_164, List.forall_mem_cons.mpr ⟨zme_165, List.forall_mem_cons.mpr ⟨zme_166, List.forall_mem_cons.mpr ⟨zme_167, List.forall_mem_cons.mpr ⟨zme_168, List.forall_mem_cons.mpr ⟨zme_169, List.forall_mem_cons.mpr ⟨zme_170, List.forall_mem_cons.mpr ⟨zme_171, List.forall_mem_cons.mpr ⟨zme_172, List.forall_mem_cons.mpr ⟨zme_173, List.forall_mem_cons.mpr ⟨zme_174, List.forall_mem_cons.mpr ⟨zme_175, fun _ h => absurd h List.not_mem_nil⟩⟩⟩⟩⟩⟩⟩⟩⟩⟩⟩⟩⟩⟩⟩⟩
noncomputable def zmes_c11 : List zMe := [(12, 182, 66, ""), (12, 186, 63, ""), (12, 187, 67, ""), (12, 190, 68, ""), (12, 194, 64, ""), (12, 197, 110, ""), (12, 198, 160, ""), (12, 201, 158, ""), (12, 204, 159, ""), (12, 208, 27, ""), (12, 211, 30, ""), (12, 215, 119, ""), (12, 218, 122, ""), (12, 222, 36, ""), (12, 225, 111, ""), (12, 232, 343, "")]
theorem zmes_r11 : ∀ q ∈ zmes_c11, zeOK q := List.forall_mem_cons.mpr ⟨zme_176, List.forall_mem_cons.mpr ⟨zme_177, List.forall_mem_cons.mpr ⟨zme_178, List.forall_mem_cons.mpr ⟨zme_179, List.forall_mem_cons.mpr ⟨zme_180, List.forall_mem_cons.mpr ⟨zme_181, List.forall_mem_cons.mpr ⟨zme_182, List.forall_mem_cons.mpr ⟨zme_183, List.forall_mem_cons.mpr ⟨zme_184, List.forall_mem_cons.mpr ⟨zme_185, List.forall_mem_cons.mpr ⟨zme_186, List.forall_mem_cons.mpr ⟨zme_187, List.forall_mem_cons.mpr ⟨zme_188, List.forall_mem_cons.mpr ⟨zme_189, List.forall_mem_cons.mpr ⟨zme_190, List.forall_mem_cons.mpr ⟨zme_191, fun _ h => absurd h List.not_mem_nil⟩⟩⟩⟩⟩⟩⟩⟩⟩⟩⟩⟩⟩⟩⟩⟩
noncomputable def zmes_c12 : List zMe := [(12, 237, 86, ""), (12, 240, 116, ""), (12, 243, 204, ""), (12, 248, 42, ""), (12, 252, 11, ""), (12, 258, 12, ""), (12, 261, 207, ""), (12, 264, 209, ""), (12, 267, 93, ""), (12, 270, 94, ""), (12, 273, 97, ""), (12, 277, 95, ""), (12, 281, 96, ""), (12, 284, 202, ""), (12, 287, 49, ""), (12, 290, 38, "")]
theorem zmes_r12 : ∀ q ∈ zmes_c12, zeOK q := List.forall_mem_cons.mpr ⟨zme_192, List.forall_mem_cons.mpr ⟨zme_193, List.forall_mem_cons.mpr ⟨zme_194, List.forall_mem_cons.mpr ⟨zme_195, List.forall_mem_cons.mpr ⟨zme_196, List.forall_mem_cons.mpr ⟨zme_197, List.forall_mem_cons.mpr ⟨zme_198, List.forall_mem_cons.mpr ⟨zme_199, List.forall_mem_cons.mpr ⟨zme_200, List.forall_mem_cons.mpr ⟨zme_201, List.forall_mem_cons.mpr ⟨zme_202, List.forall_mem_cons.mpr ⟨zme_203, List.forall_mem_cons.mpr ⟨zme_204, List.forall_mem_cons.mpr ⟨zme_205, List.forall_mem_cons.mpr ⟨zme_206, List.forall_mem_cons.mpr ⟨zme_207, fun _ h => absurd h List.not_mem_nil⟩⟩⟩⟩⟩⟩⟩⟩⟩⟩⟩⟩⟩⟩⟩⟩
noncomputable def zmes_c13 : List zMe := [(12, 294, 61, ""), (12, 297, 203, ""), (12, 300, 60, ""), (12, 303, 205, ""), (12, 306, 131, ""), (12, 310, 125, ""), (12, 313, 126, ""), (12, 316, 127, ""), (12, 319, 132, ""), (12, 322, 135, ""), (12, 326, 128, ""), (12, 329, 129, ""), (12, 332, 130, ""), (12, 335, 211, ""), (12, 338, 177, ""), (12, 342, 179, "")]
theorem zmes_r13 : ∀ q ∈ zmes_c13, zeOK q := List.forall_mem_cons.mpr ⟨zme_208, List.forall_mem_cons.mpr ⟨zme_209, List.forall_mem_cons.mpr ⟨zme_210, List.forall_mem_cons.mpr ⟨zme_211, List.forall_mem_cons.mpr ⟨zme_212, List.forall_mem_cons.mpr ⟨zme_213, List.forall_mem_cons.mpr ⟨zme_214, List.forall_mem_cons.mpr ⟨zme_215, List.forall_mem_cons.mpr ⟨zme_216, List.forall_mem_cons.mpr ⟨zme_217, List.forall_mem_cons.mpr ⟨zme_218, List.forall_mem_cons.mpr ⟨zme_219, List.forall_mem_cons.mpr ⟨zme_220, List.forall_mem_cons.mpr ⟨zme_221, List.forall_mem_cons.mpr ⟨zme_222, List.forall_mem_cons.mpr ⟨zme_223, fun _ h => absurd h List.not_mem_nil⟩⟩⟩⟩⟩⟩⟩⟩⟩⟩⟩⟩⟩⟩⟩⟩
noncomputable def zmes_c14 : List zMe := [(12, 345, 199, ""), (12, 349, 196, ""), (12, 352, 181, ""), (12, 356, 182, ""), (12, 360, 13, ""), (12, 363, 14, ""), (12, 366, 7, ""), (12, 370, 2, ""), (12, 373, 8, ""), (12, 376, 1, ""), (12, 380, 6, ""), (12, 383, 54, ""), (12, 387, 4, ""), (12, 390, 5, ""), (12, 393, 123, ""), (12, 397, 9, "")]
theorem zmes_r14 : ∀ q ∈ zmes_c14, zeOK q := List.forall_mem_cons.mpr ⟨zme_224, List.forall_mem_cons.mpr ⟨zme_225, List.forall_mem_cons.mpr ⟨zme_226, List.forall_mem_cons.mpr ⟨zme_227, List.forall_mem_cons.mpr ⟨zme_228, List.forall_mem_cons.mpr ⟨zme_229, List.forall_mem_cons.mpr ⟨zme_230, List.forall_mem_cons.mpr ⟨zme_231, List.forall_mem_cons.mpr ⟨zme_232, List.forall_mem_cons.mpr ⟨zme_233, List.forall_mem_cons.mpr ⟨zme_234, List.forall_mem_cons.mpr ⟨zme_235, List.forall_mem_cons.mpr ⟨zme_236, List.forall_mem_cons.mpr ⟨zme_237, List.forall_mem_cons.mpr ⟨zme_238, List.forall_mem_cons.mpr ⟨zme_239, fun _ h => absurd h List.not_mem_nil⟩⟩⟩⟩⟩⟩⟩⟩⟩⟩⟩⟩⟩⟩⟩⟩
noncomputable def zmes_c15 : List zMe := [(12, 404, 3, ""), (12, 407, 83, ""), (12, 412, 37, ""), (12, 415, 210, ""), (13, 110, 214, ""), (13, 119, 213, ""), (13, 123, 216, ""), (13, 127, 217, ""), (13, 132, 220, ""), (13, 136, 342, ""), (13, 142, 219, ""), (13, 146, 344, ""), (13, 149, 221, ""), (13, 153, 224, ""), (13, 156, 341, ""), (13, 158, 339, "")]
theorem zmes_r15 : ∀ q ∈ zmes_c15, zeOK q := List.forall_mem_cons.mpr ⟨zme_240, List.forall_mem_cons.mpr ⟨zme_241, List.forall_mem_cons.mpr ⟨zme_242, List.forall_mem_cons.mpr ⟨zme_243, List.forall_mem_cons.mpr ⟨zme_244, List.forall_mem_cons.mpr ⟨zme_245, List.forall_mem_cons.mpr ⟨zme_246, List.forall_mem_cons.mpr ⟨zme_247, List.forall_mem_cons.mpr ⟨zme_248, List.forall_mem_cons.mpr ⟨zme_249, List.forall_mem_cons.mpr ⟨zme_250, List.forall_mem_cons.mpr ⟨zme_251, List.forall_mem_cons.mpr ⟨zme_252, List.forall_mem_cons.mpr ⟨zme_253, List.forall_mem_cons.mpr ⟨zme_254, List.forall_mem_cons.mpr ⟨zme_255, fun _ h => absurd h List.not_mem_nil⟩⟩⟩⟩⟩⟩⟩⟩⟩⟩⟩⟩⟩⟩⟩⟩
noncomputable def zmes_c16 : List zMe := [(13, 161, 223, ""), (13, 165, 222, ""), (13, 169, 340, ""), (13, 173, 225, ""), (13, 175, 218, ""), (13, 183, 215, ""), (13, 186, 226, ""), (13, 190, 228, ""), (13, 193, 229, ""), (13, 196, 231, ""), (13, 199, 232, ""), (13, 202, 233, ""), (13, 206, 234, ""), (13, 210, 240, ""), (13, 213, 230, ""), (13, 216, 235, "")]
theorem zmes_r16 : ∀ q ∈ zmes_c16, zeOK q := List.forall_mem_cons.mpr ⟨zme_256, List.forall_mem_cons.mpr ⟨zme_257, List.forall_mem_cons.mpr ⟨zme_258, List.forall_mem_cons.mpr ⟨zme_259, List.forall_mem_cons.mpr ⟨zme_260, List.forall_mem_cons.mpr ⟨zme_261, List.forall_mem_cons.mpr ⟨zme_262, List.forall_mem_cons.mpr ⟨zme_263, List.forall_mem_cons.mpr ⟨zme_264, List.forall_mem_cons.mpr ⟨zme_265, List.forall_mem_cons.mpr ⟨zme_266, List.forall_mem_cons.mpr ⟨zme_267, List.forall_mem_cons.mpr ⟨zme_268, List.forall_mem_cons.mpr ⟨zme_269, List.forall_mem_cons.mpr ⟨zme_270, List.forall_mem_cons.mpr ⟨zme_271, fun _ h => absurd h List.not_mem_nil⟩⟩⟩⟩⟩⟩⟩⟩⟩⟩⟩⟩⟩⟩⟩⟩
noncomputable def zmes_c17 : List zMe := [(13, 220, 343, ""), (13, 222, 236, ""), (13, 226, 237, ""), (13, 229, 238, ""), (13, 232, 239, ""), (13, 235, 241, ""), (13, 239, 242, ""), (13, 245, 246, ""), (13, 248, 243, ""), (13, 251, 244, ""), (13, 254, 245, ""), (13, 259, 248, ""), (13, 263, 251, ""), (13, 267, 249, ""), (13, 274, 254, ""), (13, 281, 258, "")]
theorem zmes_r17 : ∀ q ∈ zmes_c17, zeOK q := List.forall_mem_cons.mpr ⟨zme_272, List.forall_mem_cons.mpr ⟨zme_273, List.forall_mem_cons.mpr ⟨zme_274, List.forall_mem_cons.mpr ⟨zme_275, List.forall_mem_cons.mpr ⟨zme_276, List.forall_mem_cons.mpr ⟨zme_277, List.forall_mem_cons.mpr ⟨zme_278, List.forall_mem_cons.mpr ⟨zme_279, List.forall_mem_cons.mpr ⟨zme_280, List.forall_mem_cons.mpr ⟨zme_281, List.forall_mem_cons.mpr ⟨zme_282, List.forall_mem_cons.mpr ⟨zme_283, List.forall_mem_cons.mpr ⟨zme_284, List.forall_mem_cons.mpr ⟨zme_285, List.forall_mem_cons.mpr ⟨zme_286, List.forall_mem_cons.mpr ⟨zme_287, fun _ h => absurd h List.not_mem_nil⟩⟩⟩⟩⟩⟩⟩⟩⟩⟩⟩⟩⟩⟩⟩⟩
noncomputable def zmes_c18 : List zMe := [(13, 284, 260, ""), (13, 287, 259, ""), (13, 290, 261, ""), (13, 293, 264, ""), (13, 296, 267, ""), (13, 299, 269, ""), (13, 306, 272, ""), (13, 309, 271, ""), (13, 326, 276, ""), (13, 329, 275, ""), (13, 333, 274, ""), (13, 337, 278, ""), (13, 340, 279, ""), (13, 343, 277, ""), (13, 346, 280, ""), (13, 349, 281, "")]
theorem zmes_r18 : ∀ q ∈ zmes_c18, zeOK q := List.forall_mem_cons.mpr ⟨zme_288, List.forall_mem_cons.mpr ⟨zme_289, List.forall_mem_cons.mpr ⟨zme_290, List.forall_mem_cons.mpr ⟨zme_291, List.forall_mem_cons.mpr ⟨zme_292, List.forall_mem_cons.mpr ⟨zme_293, List.forall_mem_cons.mpr ⟨zme_294, List.forall_mem_cons.mpr ⟨zme_295, List.forall_mem_cons.mpr ⟨zme_296, List.forall_mem_cons.mpr ⟨zme_297, List.forall_mem_cons.mpr ⟨zme_298, List.forall_mem_cons.mpr ⟨zme_299, List.forall_mem_cons.mpr ⟨zme_300, List.forall_mem_cons.mpr ⟨zme_301, List.forall_mem_cons.mpr ⟨zme_302, List.forall_mem_cons.mpr ⟨zme_303, fun _ h => absurd h List.not_mem_nil⟩⟩⟩⟩⟩⟩⟩⟩⟩⟩⟩⟩⟩⟩⟩⟩
noncomputable def zmes_c19 : List zMe := [(13, 353, 283, ""), (13, 357, 282, ""), (13, 368, 292, ""), (13, 371, 294, ""), (13, 379, 345, ""), (13, 383, 346, ""), (13, 390, 298, ""), (13, 403, 299, ""), (13, 414, 300, ""), (13, 417, 302, ""), (13, 420, 301, ""), (13, 423, 303, ""), (13, 426, 304, ""), (13, 429, 305, ""), (13, 438, 307, ""), (13, 441, 309, "")]
theorem zmes_r19 : ∀ q ∈ zmes_c19, zeOK q := List.forall_mem_cons.mpr ⟨zme_304, List.forall_mem_cons.mpr ⟨zme_305, List.forall_mem_cons.mpr ⟨zme_306, List.forall_mem_cons.mpr ⟨zme_307, List.forall_mem_cons.mpr ⟨zme_308, List.forall_mem_cons.mpr ⟨zme_309, List.forall_mem_cons.mpr ⟨zme_310, List.forall_mem_cons.mpr ⟨zme_311, List.forall_mem_cons.mpr ⟨zme_312, List.forall_mem_cons.mpr ⟨zme_313, List.forall_mem_cons.mpr ⟨zme_314, List.forall_mem_cons.mpr ⟨zme_315, List.forall_mem_cons.mpr ⟨zme_316, List.forall_mem_cons.mpr ⟨zme_317, List.forall_mem_cons.mpr ⟨zme_318, List.forall_mem_cons.mpr ⟨zme_319, fun _ h => absurd h List.not_mem_nil⟩⟩⟩⟩⟩⟩⟩⟩⟩⟩⟩⟩⟩⟩⟩⟩
noncomputable def zmes_c20 : List zMe := [(13, 446, 315, ""), (13, 449, 318, ""), (13, 452, 316, ""), (13, 457, 319, ""), (13, 460, 320, ""), (13, 469, 323, ""), (13, 472, 326, ""), (13, 478, 330, ""), (13, 481, 333, ""), (13, 489, 336, ""), (17, 335, 347, ""), (17, 492, 348, ""), (17, 495, 350, ""), (17, 1059, 351, ""), (18, 9, 349, ""), (14, 9, 137, "")]
theorem zmes_r20 : ∀ q ∈ zmes_c20, zeOK q := List.forall_mem_cons.mpr ⟨zme_320, List.forall_mem_cons.mpr ⟨zme_321, List.forall_mem_cons.mpr ⟨zme_322, List.forall_mem_cons.mpr ⟨zme_323, List.forall_mem_cons.mpr ⟨zme_324, List.forall_mem_cons.mpr ⟨zme_325, List.forall_mem_cons.mpr ⟨zme_326, List.forall_mem_cons.mpr ⟨zme_327, List.forall_mem_cons.mpr ⟨zme_328, List.forall_mem_cons.mpr ⟨zme_329, List.forall_mem_cons.mpr ⟨zme_330, List.forall_mem_cons.mpr ⟨zme_331, List.forall_mem_cons.mpr ⟨zme_332, List.forall_mem_cons.mpr ⟨zme_333, List.forall_mem_cons.mpr ⟨zme_334, List.forall_mem_cons.mpr ⟨zme_335, fun _ h => absurd h List.not_mem_nil⟩⟩⟩⟩⟩⟩⟩⟩⟩⟩⟩⟩⟩⟩⟩⟩
noncomputable def zmes_c21 : List zMe := [(14, 12, 212, ""), (14, 13, 138, ""), (14, 17, 308, ""), (14, 20, 139, ""), (14, 24, 310, ""), (14, 25, 140, ""), (14, 29, 311, ""), (14, 30, 141, ""), (14, 34, 312, ""), (14, 35, 142, ""), (14, 39, 313, ""), (14, 40, 143, ""), (14, 44, 314, ""), (14, 45, 144, ""), (14, 48, 317, ""), (14, 49, 147, "")]
theorem zmes_r21 : ∀ q ∈ zmes_c21, zeOK q := List.forall_mem_cons.mpr ⟨zme_336, List.forall_mem_cons.mpr ⟨zme_337, List.forall_mem_cons.mpr ⟨zme_338, List.forall_mem_cons.mpr ⟨zme_339, List.forall_mem_cons.mpr ⟨zme_340, List.forall_mem_cons.mpr ⟨zme_341, List.forall_mem_cons.mpr ⟨zme_342, List.forall_mem_cons.mpr ⟨zme_343, List.forall_mem_cons.mpr ⟨zme_344, List.forall_mem_cons.mpr ⟨zme_345, List.forall_mem_cons.mpr ⟨zme_346, List.forall_mem_cons.mpr ⟨zme_347, List.forall_mem_cons.mpr ⟨zme_348, List.forall_mem_cons.mpr ⟨zme_349, List.forall_mem_cons.mpr ⟨zme_350, List.forall_mem_cons.mpr ⟨zme_351, fun _ h => absurd h List.not_mem_nil⟩⟩⟩⟩⟩⟩⟩⟩⟩⟩⟩⟩⟩⟩⟩⟩
noncomputable def zmes_c22 : List zMe := [(14, 52, 296, ""), (14, 53, 148, ""), (14, 57, 297, ""), (14, 58, 149, ""), (14, 61, 306, ""), (14, 62, 150, ""), (14, 66, 284, ""), (14, 67, 151, ""), (14, 71, 285, ""), (14, 72, 152, ""), (14, 75, 286, ""), (14, 76, 153, ""), (14, 79, 287, ""), (14, 80, 154, ""), (14, 83, 288, ""), (14, 84, 155, "")]
theorem zmes_r22 : ∀ q ∈ zmes_c22, zeOK q := List.forall_mem_cons.mpr ⟨zme_352, List.forall_mem_cons.mpr ⟨zme_353, List.forall_mem_cons.mpr ⟨zme_354, List.forall_mem_cons.mpr ⟨zme_355, List.forall_mem_cons.mpr ⟨zme_356, List.forall_mem_cons.mpr ⟨zme_357, List.forall_mem_cons.mpr ⟨zme_358, List.forall_mem_cons.mpr ⟨zme_359, List.forall_mem_cons.mpr ⟨zme_360, List.forall_mem_cons.mpr ⟨zme_361, List.forall_mem_cons.mpr ⟨zme_362, List.forall_mem_cons.mpr ⟨zme_363, List.forall_mem_cons.mpr ⟨zme_364, List.forall_mem_cons.mpr ⟨zme_365, List.forall_mem_cons.mpr ⟨zme_366, List.forall_mem_cons.mpr ⟨zme_367, fun _ h => absurd h List.not_mem_nil⟩⟩⟩⟩⟩⟩⟩⟩⟩⟩⟩⟩⟩⟩⟩⟩
noncomputable def zmes_c23 : List zMe := [(14, 87, 289, ""), (14, 88, 156, ""), (14, 91, 290, ""), (14, 92, 157, ""), (14, 95, 291, ""), (14, 96, 161, ""), (14, 99, 293, ""), (14, 100, 162, ""), (14, 103, 295, ""), (14, 104, 163, ""), (14, 108, 227, ""), (14, 109, 164, ""), (14, 113, 247, ""), (14, 114, 165, ""), (14, 117, 250, ""), (14, 118, 166, "")]
theorem zmes_r23 : ∀ q ∈ zmes_c23, zeOK q := List.forall_mem_cons.mpr ⟨zme_368, List.forall_mem_cons.mpr ⟨zme_369, List.forall_mem_cons.mpr ⟨zme_370, List.forall_mem_cons.mpr ⟨zme_371, List.forall_mem_cons.mpr ⟨zme_372, List.forall_mem_cons.mpr ⟨zme_373, List.forall_mem_cons.mpr ⟨zme_374, List.forall_mem_cons.mpr ⟨zme_375, List.forall_mem_cons.mpr ⟨zme_376, List.forall_mem_cons.mpr ⟨zme_377, List.forall_mem_cons.mpr ⟨zme_378, List.forall_mem_cons.mpr ⟨zme_379, List.forall_mem_cons.mpr ⟨zme_380, List.forall_mem_cons.mpr ⟨zme_381, List.forall_mem_cons.mpr ⟨zme_382, List.forall_mem_cons.mpr ⟨zme_383, fun _ h => absurd h List.not_mem_nil⟩⟩⟩⟩⟩⟩⟩⟩⟩⟩⟩⟩⟩⟩⟩⟩
noncomputable def zmes_c24 : List zMe := [(14, 121, 252, ""), (14, 122, 167, ""), (14, 125, 253, ""), (14, 126, 168, ""), (14, 129, 255, ""), (14, 130, 169, ""), (14, 133, 256, ""), (14, 134, 170, ""), (14, 137, 257, ""), (14, 138, 171, ""), (14, 141, 262, ""), (14, 142, 172, ""), (14, 145, 263, ""), (14, 146, 174, ""), (14, 149, 265, ""), (14, 150, 175, "")]
theorem zmes_r24 : ∀ q ∈ zmes_c24, zeOK q := List.forall_mem_cons.mpr ⟨zme_384, List.forall_mem_cons.mpr ⟨zme_385, List.forall_mem_cons.mpr ⟨zme_386, List.forall_mem_cons.mpr ⟨zme_387, List.forall_mem_cons.mpr ⟨zme_388, List.forall_mem_cons.mpr ⟨zme_389, List.forall_mem_cons.mpr ⟨zme_390, List.forall_mem_cons.mpr ⟨zme_391, List.forall_mem_cons.mpr ⟨zme_392, List.forall_mem_cons.mpr ⟨zme_393, List.forall_mem_cons.mpr ⟨zme_394, List.forall_mem_cons.mpr ⟨zme_395, List.forall_mem_cons.mpr ⟨zme_396, List.forall_mem_cons.mpr ⟨zme_397, List.forall_mem_cons.mpr ⟨zme_398, List.forall_mem_cons.mpr ⟨zme_399, fun _ h => absurd h List.not_mem_nil⟩⟩⟩⟩⟩⟩⟩⟩⟩⟩⟩⟩⟩⟩⟩⟩
noncomputable def zmes_c25 : List zMe := [(14, 153, 266, ""), (14, 154, 173, ""), (14, 157, 268, ""), (14, 158, 176, ""), (14, 161, 270, ""), (14, 162, 178, ""), (14, 165, 273, ""), (14, 166, 180, ""), (14, 169, 321, ""), (14, 170, 183, ""), (14, 173, 322, ""), (14, 174, 184, ""), (14, 177, 324, ""), (14, 178, 185, ""), (14, 181, 325, ""), (14, 182, 186, "")]
theorem zmes_r25 : ∀ q ∈ zmes_c25, zeOK q := List.forall_mem_cons.mpr ⟨zme_400, List.forall_mem_cons.mpr ⟨zme_401, List.forall_mem_cons.mpr ⟨zme_402, List.forall_mem_cons.mpr ⟨zme_403, List.forall_mem_cons.mpr ⟨zme_404, List.forall_mem_cons.mpr ⟨zme_405, List.forall_mem_cons.mpr ⟨zme_406, List.forall_mem_cons.mpr ⟨zme_407, List.forall_mem_cons.mpr ⟨zme_408, List.forall_mem_cons.mpr ⟨zme_409, List.forall_mem_cons.mpr ⟨zme_410, List.forall_mem_cons.mpr ⟨zme_411, List.forall_mem_cons.mpr ⟨zme_412, List.forall_mem_cons.mpr ⟨zme_413, List.forall_mem_cons.mpr ⟨zme_414, List.forall_mem_cons.mpr ⟨zme_415, fun _ h => absurd h List.not_mem_nil⟩⟩⟩⟩⟩⟩⟩⟩⟩⟩⟩⟩⟩⟩⟩⟩
noncomputable def zmes_c26 : List zMe := [(14, 185, 327, ""), (14, 186, 187, ""), (14, 189, 328, ""), (14, 190, 188, ""), (14, 193, 329, ""), (14, 194, 189, ""), (14, 197, 331, ""), (14, 198, 190, ""), (14, 201, 332, ""), (14, 202, 191, ""), (14, 205, 334, ""), (14, 206, 192, ""), (14, 209, 335, ""), (14, 210, 193, ""), (14, 213, 337, "")]
theorem zmes_r26 : ∀ q ∈ zmes_c26, zeOK q := List.forall_mem_cons.mpr ⟨zme_416, List.forall_mem_cons.mpr ⟨zme_417, List.forall_mem_cons.mpr ⟨zme_418, List.forall_mem_cons.mpr ⟨zme_419, List.forall_mem_cons.mpr ⟨zme_420, List.forall_mem_cons.mpr ⟨zme_421, List.forall_mem_cons.mpr ⟨zme_422, List.forall_mem_cons.mpr ⟨zme_423, List.forall_mem_cons.mpr ⟨zme_424, List.forall_mem_cons.mpr ⟨zme_425, List.forall_mem_cons.mpr ⟨zme_426, List.forall_mem_cons.mpr ⟨zme_427, List.forall_mem_cons.mpr ⟨zme_428, List.forall_mem_cons.mpr ⟨zme_429, List.forall_mem_cons.mpr ⟨zme_430, fun _ h => absurd h List.not_mem_nil⟩⟩⟩⟩⟩⟩⟩⟩⟩⟩⟩⟩⟩⟩⟩
noncomputable def zmes : List zMe := zmes_c0 ++ (zmes_c1 ++ (zmes_c2 ++ (zmes_c3 ++ (zmes_c4 ++ (zmes_c5 ++ (zmes_c6 ++ (zmes_c7 ++ (zmes_c8 ++ (zmes_c9 ++ (zmes_c10 ++ (zmes_c11 ++ (zmes_c12 ++ (zmes_c13 ++ (zmes_c14 ++ (zmes_c15 ++ (zmes_c16 ++ (zmes_c17 ++ (zmes_c18 ++ (zmes_c19 ++ (zmes_c20 ++ (zmes_c21 ++ (zmes_c22 ++ (zmes_c23 ++ (zmes_c24 ++ (zmes_c25 ++ (zmes_c26))))))))))))))))))))))))))
theorem zmes_ok : ∀ q ∈ zmes, zeOK q := List.forall_mem_append.mpr ⟨zmes_r0, List.forall_mem_append.mpr ⟨zmes_r1, List.forall_mem_append.mpr ⟨zmes_r2, List.forall_mem_append.mpr ⟨zmes_r3, List.forall_mem_append.mpr ⟨zmes_r4, List.forall_mem_append.mpr ⟨zmes_r5, List.forall_mem_append.mpr ⟨zmes_r6, List.forall_mem_append.mpr ⟨zmes_r7, List.forall_mem_append.mpr ⟨zmes_r8, List.forall_mem_append.mpr ⟨zmes_r9, List.forall_mem_append.mpr ⟨zmes_r10, List.forall_mem_append.mpr ⟨zmes_r11, List.forall_mem_append.mpr ⟨zmes_r12, List.forall_mem_append.mpr ⟨zmes_r13, List.forall_mem_append.mpr ⟨zmes_r14, List.forall_mem_append.mpr ⟨zmes_r15, List.forall_mem_append.mpr ⟨zmes_r16, List.forall_mem_append.mpr ⟨zmes_r17, List.forall_mem_append.mpr ⟨zmes_r18, List.forall_mem_append.mpr ⟨zmes_r19, List.forall_mem_append.mpr ⟨zmes_r20, List.forall_mem_append.mpr ⟨zmes_r21, List.forall_mem_append.mpr ⟨zmes_r22, List.forall_mem_append.mpr ⟨zmes_r23, List.forall_mem_append.mpr ⟨zmes_r24, List.forall_mem_append.mpr ⟨zmes_r25, zmes_r26⟩⟩⟩⟩⟩⟩⟩⟩⟩⟩⟩⟩⟩⟩⟩⟩⟩⟩⟩⟩⟩⟩⟩⟩⟩⟩
/-- an entry of a field: own class, index, class's code, place -/
abbrev zFe : Type := Nat × Nat × Nat × Nat
def zfOK (e : zFe) : Prop := ∃ r : vw_C, znth zcl (e.2.2.1 - 1) = some r ∧ 0 < e.2.2.1 ∧ e.2.2.2 < r.2.2 ∧ Jvm.Cond.fieldLink (zcnOf e.1) e.2.1 (r.2.1 e.2.2.2).1 (r.2.1 e.2.2.2).2.1 (r.2.1 e.2.2.2).2.2.1 ∈ lw_tbl
set_option maxRecDepth 100000 in
theorem zfe_0 : zfOK (1, 10, 1, 0) := ⟨(RX0, TX0, 6), rfl, by decide, by decide, zsub_1 (List.mem_of_getElem? (i := 79) rfl)⟩
set_option maxRecDepth 100000 in
theorem zfe_1 : zfOK (1, 16, 1, 1) := ⟨(RX0, TX0, 6), rfl, by decide, by decide, zsub_1 (List.mem_of_getElem? (i := 80) rfl)⟩
set_option maxRecDepth 100000 in
theorem zfe_2 : zfOK (1, 20, 1, 5) := ⟨(RX0, TX0, 6), rfl, by decide, by decide, zsub_1 (List.mem_of_getElem? (i := 84) rfl)⟩
set_option maxRecDepth 100000 in
theorem zfe_3 : zfOK (1, 24, 1, 3) := ⟨(RX0, TX0, 6), rfl, by decide, by decide, zsub_1 (List.mem_of_getElem? (i := 82) rfl)⟩
set_option maxRecDepth 100000 in
theorem zfe_4 : zfOK (1, 27, 1, 4) := ⟨(RX0, TX0, 6), rfl, by decide, by decide, zsub_1 (List.mem_of_getElem? (i := 83) rfl)⟩
set_option maxRecDepth 100000 in
theorem zfe_5 : zfOK (1, 31, 1, 2) := ⟨(RX0, TX0, 6), rfl, by decide, by decide, zsub_1 (List.mem_of_getElem? (i := 81) rfl)⟩
set_option maxRecDepth 100000 in
theorem zfe_6 : zfOK (2, 7, 2, 1) := ⟨(RX1, TX1, 2), rfl, by decide, by decide, zsub_1 (List.mem_of_getElem? (i := 176) rfl)⟩
set_option maxRecDepth 100000 in
theorem zfe_7 : zfOK (2, 13, 2, 0) := ⟨(RX1, TX1, 2), rfl, by decide, by decide, zsub_1 (List.mem_of_getElem? (i := 175) rfl)⟩
set_option maxRecDepth 100000 in
theorem zfe_10 : zfOK (4, 11, 4, 0) := ⟨(RX3, TX3, 5), rfl, by decide, by decide, zsub_1 (List.mem_of_getElem? (i := 207) rfl)⟩
set_option maxRecDepth 100000 in
theorem zfe_11 : zfOK (4, 17, 4, 1) := ⟨(RX3, TX3, 5), rfl, by decide, by decide, zsub_1 (List.mem_of_getElem? (i := 208) rfl)⟩
set_option maxRecDepth 100000 in
theorem zfe_12 : zfOK (4, 22, 4, 2) := ⟨(RX3, TX3, 5), rfl, by decide, by decide, zsub_1 (List.mem_of_getElem? (i := 209) rfl)⟩
set_option maxRecDepth 100000 in
theorem zfe_13 : zfOK (4, 29, 4, 3) := ⟨(RX3, TX3, 5), rfl, by decide, by decide, zsub_1 (List.mem_of_getElem? (i := 210) rfl)⟩
set_option maxRecDepth 100000 in
theorem zfe_14 : zfOK (4, 36, 4, 4) := ⟨(RX3, TX3, 5), rfl, by decide, by decide, zsub_1 (List.mem_of_getElem? (i := 211) rfl)⟩
set_option maxRecDepth 100000 in
theorem zfe_15 : zfOK (5, 9, 5, 0) := ⟨(RX4, TX4, 2), rfl, by decide, by decide, zsub_1 (List.mem_of_getElem? (i := 182) rfl)⟩
set_option maxRecDepth 100000 in
theorem zfe_16 : zfOK (5, 17, 5, 1) := ⟨(RX4, TX4, 2), rfl, by decide, by decide, zsub_1 (List.mem_of_getElem? (i := 183) rfl)⟩
set_option maxRecDepth 100000 in
theorem zfe_17 : zfOK (6, 11, 6, 0) := ⟨(RX5, TX5, 1), rfl, by decide, by decide, zsub_1 (List.mem_of_getElem? (i := 73) rfl)⟩
set_option maxRecDepth 100000 in
theorem zfe_18 : zfOK (7, 11, 7, 0) := ⟨(RX6, TX6, 11), rfl, by decide, by decide, zsub_1 (List.mem_of_getElem? (i := 120) rfl)⟩
set_option maxRecDepth 100000 in
theorem zfe_19 : zfOK (7, 15, 7, 6) := ⟨(RX6, TX6, 11), rfl, by decide, by decide, zsub_1 (List.mem_of_getElem? (i := 126) rfl)⟩
set_option maxRecDepth 100000 in
theorem zfe_20 : zfOK (7, 18, 7, 7) := ⟨(RX6, TX6, 11), rfl, by decide, by decide, zsub_1 (List.mem_of_getElem? (i := 127) rfl)⟩
set_option maxRecDepth 100000 in
theorem zfe_21 : zfOK (7, 21, 7, 8) := ⟨(RX6, TX6, 11), rfl, by decide, by decide, zsub_1 (List.mem_of_getElem? (i := 128) rfl)⟩
set_option maxRecDepth 100000 in
theorem zfe_22 : zfOK (7, 24, 7, 9) := ⟨(RX6, TX6, 11), rfl, by decide, by decide, zsub_1 (List.mem_of_getElem? (i := 129) rfl)⟩
set_option maxRecDepth 100000 in
theorem zfe_23 : zfOK (7, 27, 7, 10) := ⟨(RX6, TX6, 11), rfl, by decide, by decide, zsub_1 (List.mem_of_getElem? (i := 130) rfl)⟩
set_option maxRecDepth 100000 in
theorem zfe_24 : zfOK (7, 30, 7, 1) := ⟨(RX6, TX6, 11), rfl, by decide, by decide, zsub_1 (List.mem_of_getElem? (i := 121) rfl)⟩
set_option maxRecDepth 100000 in
theorem zfe_25 : zfOK (7, 34, 7, 4) := ⟨(RX6, TX6, 11), rfl, by decide, by decide, zsub_1 (List.mem_of_getElem? (i := 124) rfl)⟩
set_option maxRecDepth 100000 in
theorem zfe_26 : zfOK (7, 37, 7, 2) := ⟨(RX6, TX6, 11), rfl, by decide, by decide, zsub_1 (List.mem_of_getElem? (i := 122) rfl)⟩
set_option maxRecDepth 100000 in
theorem zfe_27 : zfOK (7, 40, 7, 5) := ⟨(RX6, TX6, 11), rfl, by decide, by decide, zsub_1 (List.mem_of_getElem? (i := 125) rfl)⟩
set_option maxRecDepth 100000 in
theorem zfe_28 : zfOK (7, 43, 7, 3) := ⟨(RX6, TX6, 11), rfl, by decide, by decide, zsub_1 (List.mem_of_getElem? (i := 123) rfl)⟩
set_option maxRecDepth 100000 in
theorem zfe_29 : zfOK (8, 9, 8, 0) := ⟨(RX7, TX7, 3), rfl, by decide, by decide, zsub_1 (List.mem_of_getElem? (i := 104) rfl)⟩
set_option maxRecDepth 100000 in
theorem zfe_30 : zfOK (8, 15, 8, 1) := ⟨(RX7, TX7, 3), rfl, by decide, by decide, zsub_1 (List.mem_of_getElem? (i := 105) rfl)⟩
set_option maxRecDepth 100000 in
theorem zfe_31 : zfOK (8, 18, 8, 2) := ⟨(RX7, TX7, 3), rfl, by decide, by decide, zsub_1 (List.mem_of_getElem? (i := 106) rfl)⟩
set_option maxRecDepth 100000 in
theorem zfe_32 : zfOK (9, 11, 9, 0) := ⟨(RX8, TX8, 3), rfl, by decide, by decide, zsub_1 (List.mem_of_getElem? (i := 197) rfl)⟩
set_option maxRecDepth 100000 in
theorem zfe_33 : zfOK (9, 17, 9, 1) := ⟨(RX8, TX8, 3), rfl, by decide, by decide, zsub_1 (List.mem_of_getElem? (i := 198) rfl)⟩
set_option maxRecDepth 100000 in
theorem zfe_34 : zfOK (9, 21, 9, 2) := ⟨(RX8, TX8, 3), rfl, by decide, by decide, zsub_1 (List.mem_of_getElem? (i := 199) rfl)⟩
set_option maxRecDepth 100000 in
theorem zfe_35 : zfOK (10, 11, 10, 0) := ⟨(RX9, TX9, 8), rfl, by decide, by decide, zsub_1 (List.mem_of_getElem? (i := 35) rfl)⟩
set_option maxRecDepth 100000 in
theorem zfe_36 : zfOK (10, 15, 10, 1) := ⟨(RX9, TX9, 8), rfl, by decide, by decide, zsub_1 (List.mem_of_getElem? (i := 36) rfl)⟩
set_option maxRecDepth 100000 in
theorem zfe_37 : zfOK (10, 18, 10, 2) := ⟨(RX9, TX9, 8), rfl, by decide, by decide, zsub_1 (List.mem_of_getElem? (i := 37) rfl)⟩
set_option maxRecDepth 100000 in
theorem zfe_38 : zfOK (10, 21, 10, 3) := ⟨(RX9, TX9, 8), rfl, by decide, by decide, zsub_1 (List.mem_of_getElem? (i := 38) rfl)⟩
set_option maxRecDepth 100000 in
theorem zfe_39 : zfOK (10, 24, 10, 4) := ⟨(RX9, TX9, 8), rfl, by decide, by decide, zsub_1 (List.mem_of_getElem? (i := 39) rfl)⟩
set_option maxRecDepth 100000 in
theorem zfe_40 : zfOK (10, 27, 10, 5) := ⟨(RX9, TX9, 8), rfl, by decide, by decide, zsub_1 (List.mem_of_getElem? (i := 40) rfl)⟩
set_option maxRecDepth 100000 in
theorem zfe_41 : zfOK (10, 30, 10, 6) := ⟨(RX9, TX9, 8), rfl, by decide, by decide, zsub_1 (List.mem_of_getElem? (i := 41) rfl)⟩
set_option maxRecDepth 100000 in
theorem zfe_42 : zfOK (10, 33, 10, 7) := ⟨(RX9, TX9, 8), rfl, by decide, by decide, zsub_1 (List.mem_of_getElem? (i := 42) rfl)⟩
set_option maxRecDepth 100000 in
theorem zfe_43 : zfOK (11, 12, 11, 0) := ⟨(RX10, TX10, 8), rfl, by decide, by decide, zsub_1 (List.mem_of_getElem? (i := 231) rfl)⟩
set_option maxRecDepth 100000 in
theorem zfe_44 : zfOK (11, 18, 11, 1) := ⟨(RX10, TX10, 8), rfl, by decide, by decide, zsub_1 (List.mem_of_getElem? (i := 232) rfl)⟩
set_option maxRecDepth 100000 in
theorem zfe_45 : zfOK (11, 22, 11, 2) := ⟨(RX10, TX10, 8), rfl, by decide, by decide, zsub_1 (List.mem_of_getElem? (i := 233) rfl)⟩
set_option maxRecDepth 100000 in
theorem zfe_46 : zfOK (11, 26, 11, 3) := ⟨(RX10, TX10, 8), rfl, by decide, by decide, zsub_1 (List.mem_of_getElem? (i := 234) rfl)⟩
set_option maxRecDepth 100000 in
theorem zfe_47 : zfOK (11, 29, 11, 4) := ⟨(RX10, TX10, 8), rfl, by decide, by decide, zsub_1 (List.mem_of_getElem? (i := 235) rfl)⟩
set_option maxRecDepth 100000 in
theorem zfe_48 : zfOK (11, 32, 11, 5) := ⟨(RX10, TX10, 8), rfl, by decide, by decide, zsub_1 (List.mem_of_getElem? (i := 236) rfl)⟩
set_option maxRecDepth 100000 in
theorem zfe_49 : zfOK (11, 35, 11, 6) := ⟨(RX10, TX10, 8), rfl, by decide, by decide, zsub_1 (List.mem_of_getElem? (i := 237) rfl)⟩
set_option maxRecDepth 100000 in
theorem zfe_50 : zfOK (11, 38, 11, 7) := ⟨(RX10, TX10, 8), rfl, by decide, by decide, zsub_1 (List.mem_of_getElem? (i := 238) rfl)⟩
set_option maxRecDepth 100000 in
theorem zfe_51 : zfOK (12, 12, 12, 0) := ⟨(RX11, TX11, 16), rfl, by decide, by decide, zsub_2 (List.mem_of_getElem? (i := 22) rfl)⟩
set_option maxRecDepth 100000 in
theorem zfe_52 : zfOK (12, 16, 12, 1) := ⟨(RX11, TX11, 16), rfl, by decide, by decide, zsub_2 (List.mem_of_getElem? (i := 23) rfl)⟩
set_option maxRecDepth 100000 in
theorem zfe_53 : zfOK (12, 22, 12, 2) := ⟨(RX11, TX11, 16), rfl, by decide, by decide, zsub_2 (List.mem_of_getElem? (i := 24) rfl)⟩
set_option maxRecDepth 100000 in
theorem zfe_54 : zfOK (12, 26, 12, 3) := ⟨(RX11, TX11, 16), rfl, by decide, by decide, zsub_2 (List.mem_of_getElem? (i := 25) rfl)⟩
set_option maxRecDepth 100000 in
theorem zfe_55 : zfOK (12, 32, 12, 4) := ⟨(RX11, TX11, 16), rfl, by decide, by decide, zsub_2 (List.mem_of_getElem? (i := 26) rfl)⟩
set_option maxRecDepth 100000 in
theorem zfe_56 : zfOK (12, 39, 12, 5) := ⟨(RX11, TX11, 16), rfl, by decide, by decide, zsub_2 (List.mem_of_getElem? (i := 27) rfl)⟩
set_option maxRecDepth 100000 in
theorem zfe_57 : zfOK (12, 46, 12, 6) := ⟨(RX11, TX11, 16), rfl, by decide, by decide, zsub_2 (List.mem_of_getElem? (i := 28) rfl)⟩
set_option maxRecDepth 100000 in
theorem zfe_58 : zfOK (12, 53, 12, 7) := ⟨(RX11, TX11, 16), rfl, by decide, by decide, zsub_2 (List.mem_of_getElem? (i := 29) rfl)⟩
set_option maxRecDepth 100000 in
theorem zfe_59 : zfOK (12, 60, 12, 8) := ⟨(RX11, TX11, 16), rfl, by decide, by decide, zsub_2 (List.mem_of_getElem? (i := 30) rfl)⟩
set_option maxRecDepth 100000 in
theorem zfe_60 : zfOK (12, 67, 12, 9) := ⟨(RX11, TX11, 16), rfl, by decide, by decide, zsub_2 (List.mem_of_getElem? (i := 31) rfl)⟩
set_option maxRecDepth 100000 in
theorem zfe_61 : zfOK (12, 74, 12, 10) := ⟨(RX11, TX11, 16), rfl, by decide, by decide, zsub_2 (List.mem_of_getElem? (i := 32) rfl)⟩
set_option maxRecDepth 100000 in
theorem zfe_62 : zfOK (12, 78, 12, 11) := ⟨(RX11, TX11, 16), rfl, by decide, by decide, zsub_2 (List.mem_of_getElem? (i := 33) rfl)⟩
set_option maxRecDepth 100000 in
theorem zfe_63 : zfOK (12, 82, 12, 12) := ⟨(RX11, TX11, 16), rfl, by decide, by decide, zsub_2 (List.mem_of_getElem? (i := 34) rfl)⟩
set_option maxRecDepth 100000 in
theorem zfe_64 : zfOK (12, 85, 12, 13) := ⟨(RX11, TX11, 16), rfl, by decide, by decide, zsub_2 (List.mem_of_getElem? (i := 35) rfl)⟩
set_option maxRecDepth 100000 in
theorem zfe_65 : zfOK (12, 228, 12, 15) := ⟨(RX11, TX11, 16), rfl, by decide, by decide, zsub_2 (List.mem_of_getElem? (i := 37) rfl)⟩
set_option maxRecDepth 100000 in
theorem zfe_66 : zfOK (12, 400, 12, 14) := ⟨(RX11, TX11, 16), rfl, by decide, by decide, zsub_2 (List.mem_of_getElem? (i := 36) rfl)⟩
set_option maxRecDepth 100000 in
theorem zfe_67 : zfOK (13, 9, 13, 0) := ⟨(RX12, TX12, 32), rfl, by decide, by decide, zsub_6 (List.mem_of_getElem? (i := 75) rfl)⟩
set_option maxRecDepth 100000 in
theorem zfe_68 : zfOK (13, 13, 13, 2) := ⟨(RX12, TX12, 32), rfl, by decide, by decide, zsub_6 (List.mem_of_getElem? (i := 77) rfl)⟩
set_option maxRecDepth 100000 in
theorem zfe_69 : zfOK (13, 16, 13, 3) := ⟨(RX12, TX12, 32), rfl, by decide, by decide, zsub_6 (List.mem_of_getElem? (i := 78) rfl)⟩
set_option maxRecDepth 100000 in
theorem zfe_70 : zfOK (13, 20, 13, 4) := ⟨(RX12, TX12, 32), rfl, by decide, by decide, zsub_6 (List.mem_of_getElem? (i := 79) rfl)⟩
set_option maxRecDepth 100000 in
theorem zfe_71 : zfOK (13, 25, 13, 5) := ⟨(RX12, TX12, 32), rfl, by decide, by decide, zsub_6 (List.mem_of_getElem? (i := 80) rfl)⟩
set_option maxRecDepth 100000 in
theorem zfe_72 : zfOK (13, 28, 13, 6) := ⟨(RX12, TX12, 32), rfl, by decide, by decide, zsub_6 (List.mem_of_getElem? (i := 81) rfl)⟩
set_option maxRecDepth 100000 in
theorem zfe_73 : zfOK (13, 32, 13, 7) := ⟨(RX12, TX12, 32), rfl, by decide, by decide, zsub_6 (List.mem_of_getElem? (i := 82) rfl)⟩
set_option maxRecDepth 100000 in
theorem zfe_74 : zfOK (13, 35, 13, 8) := ⟨(RX12, TX12, 32), rfl, by decide, by decide, zsub_6 (List.mem_of_getElem? (i := 83) rfl)⟩
set_option maxRecDepth 100000 in
theorem zfe_75 : zfOK (13, 66, 13, 9) := ⟨(RX12, TX12, 32), rfl, by decide, by decide, zsub_6 (List.mem_of_getElem? (i := 84) rfl)⟩
set_option maxRecDepth 100000 in
theorem zfe_76 : zfOK (13, 70, 13, 10) := ⟨(RX12, TX12, 32), rfl, by decide, by decide, zsub_6 (List.mem_of_getElem? (i := 85) rfl)⟩
set_option maxRecDepth 100000 in
theorem zfe_77 : zfOK (13, 73, 13, 16) := ⟨(RX12, TX12, 32), rfl, by decide, by decide, zsub_6 (List.mem_of_getElem? (i := 91) rfl)⟩
set_option maxRecDepth 100000 in
theorem zfe_78 : zfOK (13, 76, 13, 18) := ⟨(RX12, TX12, 32), rfl, by decide, by decide, zsub_6 (List.mem_of_getElem? (i := 93) rfl)⟩
set_option maxRecDepth 100000 in
theorem zfe_79 : zfOK (13, 79, 13, 19) := ⟨(RX12, TX12, 32), rfl, by decide, by decide, zsub_6 (List.mem_of_getElem? (i := 94) rfl)⟩
set_option maxRecDepth 100000 in
theorem zfe_80 : zfOK (13, 82, 13, 20) := ⟨(RX12, TX12, 32), rfl, by decide, by decide, zsub_6 (List.mem_of_getElem? (i := 95) rfl)⟩
set_option maxRecDepth 100000 in
theorem zfe_81 : zfOK (13, 85, 13, 21) := ⟨(RX12, TX12, 32), rfl, by decide, by decide, zsub_6 (List.mem_of_getElem? (i := 96) rfl)⟩
set_option maxRecDepth 100000 in
theorem zfe_82 : zfOK (13, 88, 13, 22) := ⟨(RX12, TX12, 32), rfl, by decide, by decide, zsub_6 (List.mem_of_getElem? (i := 97) rfl)⟩
set_option maxRecDepth 100000 in
theorem zfe_83 : zfOK (13, 91, 13, 23) := ⟨(RX12, TX12, 32), rfl, by decide, by decide, zsub_6 (List.mem_of_getElem? (i := 98) rfl)⟩
set_option maxRecDepth 100000 in
theorem zfe_84 : zfOK (13, 94, 13, 26) := ⟨(RX12, TX12, 32), rfl, by decide, by decide, zsub_6 (List.mem_of_getElem? (i := 101) rfl)⟩
set_option maxRecDepth 100000 in
theorem zfe_85 : zfOK (13, 98, 13, 27) := ⟨(RX12, TX12, 32), rfl, by decide, by decide, zsub_6 (List.mem_of_getElem? (i := 102) rfl)⟩
set_option maxRecDepth 100000 in
theorem zfe_86 : zfOK (13, 101, 13, 28) := ⟨(RX12, TX12, 32), rfl, by decide, by decide, zsub_6 (List.mem_of_getElem? (i := 103) rfl)⟩
set_option maxRecDepth 100000 in
theorem zfe_87 : zfOK (13, 104, 13, 29) := ⟨(RX12, TX12, 32), rfl, by decide, by decide, zsub_6 (List.mem_of_getElem? (i := 104) rfl)⟩
set_option maxRecDepth 100000 in
theorem zfe_88 : zfOK (13, 107, 13, 30) := ⟨(RX12, TX12, 32), rfl, by decide, by decide, zsub_6 (List.mem_of_getElem? (i := 105) rfl)⟩
set_option maxRecDepth 100000 in
theorem zfe_89 : zfOK (13, 116, 13, 1) := ⟨(RX12, TX12, 32), rfl, by decide, by decide, zsub_6 (List.mem_of_getElem? (i := 76) rfl)⟩
set_option maxRecDepth 100000 in
theorem zfe_90 : zfOK (13, 376, 13, 11) := ⟨(RX12, TX12, 32), rfl, by decide, by decide, zsub_6 (List.mem_of_getElem? (i := 86) rfl)⟩
set_option maxRecDepth 100000 in
theorem zfe_91 : zfOK (13, 387, 13, 12) := ⟨(RX12, TX12, 32), rfl, by decide, by decide, zsub_6 (List.mem_of_getElem? (i := 87) rfl)⟩
set_option maxRecDepth 100000 in
theorem zfe_92 : zfOK (13, 393, 13, 13) := ⟨(RX12, TX12, 32), rfl, by decide, by decide, zsub_6 (List.mem_of_getElem? (i := 88) rfl)⟩
set_option maxRecDepth 100000 in
theorem zfe_93 : zfOK (13, 396, 13, 14) := ⟨(RX12, TX12, 32), rfl, by decide, by decide, zsub_6 (List.mem_of_getElem? (i := 89) rfl)⟩
set_option maxRecDepth 100000 in
theorem zfe_94 : zfOK (13, 406, 13, 15) := ⟨(RX12, TX12, 32), rfl, by decide, by decide, zsub_6 (List.mem_of_getElem? (i := 90) rfl)⟩
set_option maxRecDepth 100000 in
theorem zfe_95 : zfOK (13, 433, 13, 17) := ⟨(RX12, TX12, 32), rfl, by decide, by decide, zsub_6 (List.mem_of_getElem? (i := 92) rfl)⟩
set_option maxRecDepth 100000 in
theorem zfe_96 : zfOK (13, 463, 13, 24) := ⟨(RX12, TX12, 32), rfl, by decide, by decide, zsub_6 (List.mem_of_getElem? (i := 99) rfl)⟩
set_option maxRecDepth 100000 in
theorem zfe_97 : zfOK (13, 466, 13, 25) := ⟨(RX12, TX12, 32), rfl, by decide, by decide, zsub_6 (List.mem_of_getElem? (i := 100) rfl)⟩
set_option maxRecDepth 100000 in
theorem zfe_98 : zfOK (13, 485, 13, 31) := ⟨(RX12, TX12, 32), rfl, by decide, by decide, zsub_6 (List.mem_of_getElem? (i := 106) rfl)⟩
noncomputable def zfes_c0 : List zFe := [(1, 10, 1, 0), (1, 16, 1, 1), (1, 20, 1, 5), (1, 24, 1, 3), (1, 27, 1, 4), (1, 31, 1, 2), (2, 7, 2, 1), (2, 13, 2, 0), (1, 10, 1, 0), (1, 10, 1, 0), (4, 11, 4, 0), (4, 17, 4, 1), (4, 22, 4, 2), (4, 29, 4, 3), (4, 36, 4, 4), (5, 9, 5, 0)]
theorem zfes_r0 : ∀ q ∈ zfes_c0, zfOK q := List.forall_mem_cons.mpr ⟨zfe_0, List.forall_mem_cons.mpr ⟨zfe_1, List.forall_mem_cons.mpr ⟨zfe_2, List.forall_mem_cons.mpr ⟨zfe_3, List.forall_mem_cons.mpr ⟨zfe_4, List.forall_mem_cons.mpr ⟨zfe_5, List.forall_mem_cons.mpr ⟨zfe_6, List.forall_mem_cons.mpr ⟨zfe_7, List.forall_mem_cons.mpr ⟨zfe_0, List.forall_mem_cons.mpr ⟨zfe_0, List.forall_mem_cons.mpr ⟨zfe_10, List.forall_mem_cons.mpr ⟨zfe_11, List.forall_mem_cons.mpr ⟨zfe_12, List.forall_mem_cons.mpr ⟨zfe_13, List.forall_mem_cons.mpr ⟨zfe_14, List.forall_mem_cons.mpr ⟨zfe_15, fun _ h => absurd h List.not_mem_nil⟩⟩⟩⟩⟩⟩⟩⟩⟩⟩⟩⟩⟩⟩⟩⟩
noncomputable def zfes_c1 : List zFe := [(5, 17, 5, 1), (6, 11, 6, 0), (7, 11, 7, 0), (7, 15, 7, 6), (7, 18, 7, 7), (7, 21, 7, 8), (7, 24, 7, 9), (7, 27, 7, 10), (7, 30, 7, 1), (7, 34, 7, 4), (7, 37, 7, 2), (7, 40, 7, 5), (7, 43, 7, 3), (8, 9, 8, 0), (8, 15, 8, 1), (8, 18, 8, 2)]
theorem zfes_r1 : ∀ q ∈ zfes_c1, zfOK q := List.forall_mem_cons.mpr ⟨zfe_16, List.forall_mem_cons.mpr ⟨zfe_17, List.forall_mem_cons.mpr ⟨zfe_18, List.forall_mem_cons.mpr ⟨zfe_19, List.forall_mem_cons.mpr ⟨zfe_20, List.forall_mem_cons.mpr ⟨zfe_21, List.forall_mem_cons.mpr ⟨zfe_22, List.forall_mem_cons.mpr ⟨zfe_23, List.forall_mem_cons.mpr ⟨zfe_24, List.forall_mem_cons.mpr ⟨zfe_25, List.forall_mem_cons.mpr ⟨zfe_26, List.forall_mem_cons.mpr ⟨zfe_27, List.forall_mem_cons.mpr ⟨zfe_28, List.forall_mem_cons.mpr ⟨zfe_29, List.forall_mem_cons.mpr ⟨zfe_30, List.forall_mem_cons.mpr ⟨zfe_31, fun _ h => absurd h List.not_mem_nil⟩⟩⟩⟩⟩⟩⟩⟩⟩⟩⟩⟩⟩⟩⟩⟩
noncomputable def zfes_c2 : List zFe := [(9, 11, 9, 0), (9, 17, 9, 1), (9, 21, 9, 2), (10, 11, 10, 0), (10, 15, 10, 1), (10, 18, 10, 2), (10, 21, 10, 3), (10, 24, 10, 4), (10, 27, 10, 5), (10, 30, 10, 6), (10, 33, 10, 7), (11, 12, 11, 0), (11, 18, 11, 1), (11, 22, 11, 2), (11, 26, 11, 3), (11, 29, 11, 4)]
theorem zfes_r2 : ∀ q ∈ zfes_c2, zfOK q := List.forall_mem_cons.mpr ⟨zfe_32, List.forall_mem_cons.mpr ⟨zfe_33, List.forall_mem_cons.mpr ⟨zfe_34, List.forall_mem_cons.mpr ⟨zfe_35, List.forall_mem_cons.mpr ⟨zfe_36, List.forall_mem_cons.mpr ⟨zfe_37, List.forall_mem_cons.mpr ⟨zfe_38, List.forall_mem_cons.mpr ⟨zfe_39, List.forall_mem_cons.mpr ⟨zfe_40, List.forall_mem_cons.mpr ⟨zfe_41, List.forall_mem_cons.mpr ⟨zfe_42, List.forall_mem_cons.mpr ⟨zfe_43, List.forall_mem_cons.mpr ⟨zfe_44, List.forall_mem_cons.mpr ⟨zfe_45, List.forall_mem_cons.mpr ⟨zfe_46, List.forall_mem_cons.mpr ⟨zfe_47, fun _ h => absurd h List.not_mem_nil⟩⟩⟩⟩⟩⟩⟩⟩⟩⟩⟩⟩⟩⟩⟩⟩
noncomputable def zfes_c3 : List zFe := [(11, 32, 11, 5), (11, 35, 11, 6), (11, 38, 11, 7), (12, 12, 12, 0), (12, 16, 12, 1), (12, 22, 12, 2), (12, 26, 12, 3), (12, 32, 12, 4), (12, 39, 12, 5), (12, 46, 12, 6), (12, 53, 12, 7), (12, 60, 12, 8), (12, 67, 12, 9), (12, 74, 12, 10), (12, 78, 12, 11), (12, 82, 12, 12)]
theorem zfes_r3 : ∀ q ∈ zfes_c3, zfOK q := List.forall_mem_cons.mpr ⟨zfe_48, List.forall_mem_cons.mpr ⟨zfe_49, List.forall_mem_cons.mpr ⟨zfe_50, List.forall_mem_cons.mpr ⟨zfe_51, List.forall_mem_cons.mpr ⟨zfe_52, List.forall_mem_cons.mpr ⟨zfe_53, List.forall_mem_cons.mpr ⟨zfe_54, List.forall_mem_cons.mpr ⟨zfe_55, List.forall_mem_cons.mpr ⟨zfe_56, List.forall_mem_cons.mpr ⟨zfe_57, List.forall_mem_cons.mpr ⟨zfe_58, List.forall_mem_cons.mpr ⟨zfe_59, List.forall_mem_cons.mpr ⟨zfe_60, List.forall_mem_cons.mpr ⟨zfe_61, List.forall_mem_cons.mpr ⟨zfe_62, List.forall_mem_cons.mpr ⟨zfe_63, fun _ h => absurd h List.not_mem_nil⟩⟩⟩⟩⟩⟩⟩⟩⟩⟩⟩⟩⟩⟩⟩⟩
noncomputable def zfes_c4 : List zFe := [(12, 85, 12, 13), (12, 228, 12, 15), (12, 400, 12, 14), (13, 9, 13, 0), (13, 13, 13, 2), (13, 16, 13, 3), (13, 20, 13, 4), (13, 25, 13, 5), (13, 28, 13, 6), (13, 32, 13, 7), (13, 35, 13, 8), (13, 66, 13, 9), (13, 70, 13, 10), (13, 73, 13, 16), (13, 76, 13, 18), (13, 79, 13, 19)]
theorem zfes_r4 : ∀ q ∈ zfes_c4, zfOK q := List.forall_mem_cons.mpr ⟨zfe_64, List.forall_mem_cons.mpr ⟨zfe_65, List.forall_mem_cons.mpr ⟨zfe_66, List.forall_mem_cons.mpr ⟨zfe_67, List.forall_mem_cons.mpr ⟨zfe_68, List.forall_mem_cons.mpr ⟨zfe_69, List.forall_mem_cons.mpr ⟨zfe_70, List.forall_mem_cons.mpr ⟨zfe_71, List.forall_mem_cons.mpr ⟨zfe_72, List.forall_mem_cons.mpr ⟨zfe_73, List.forall_mem_cons.mpr ⟨zfe_74, List.forall_mem_cons.mpr ⟨zfe_75, List.forall_mem_cons.mpr ⟨zfe_76, List.forall_mem_cons.mpr ⟨zfe_77, List.forall_mem_cons.mpr ⟨zfe_78, List.forall_mem_cons.mpr ⟨zfe_79, fun _ h => absurd h List.not_mem_nil⟩⟩⟩⟩⟩⟩⟩⟩⟩⟩⟩⟩⟩⟩⟩⟩
noncomputable def zfes_c5 : List zFe := [(13, 82, 13, 20), (13, 85, 13, 21), (13, 88, 13, 22), (13, 91, 13, 23), (13, 94, 13, 26), (13, 98, 13, 27), (13, 101, 13, 28), (13, 104, 13, 29), (13, 107, 13, 30), (13, 116, 13, 1), (13, 376, 13, 11), (13, 387, 13, 12), (13, 393, 13, 13), (13, 396, 13, 14), (13, 406, 13, 15), (13, 433, 13, 17)]
theorem zfes_r5 : ∀ q ∈ zfes_c5, zfOK q := List.forall_mem_cons.mpr ⟨zfe_80, List.forall_mem_cons.mpr ⟨zfe_81, List.forall_mem_cons.mpr ⟨zfe_82, List.forall_mem_cons.mpr ⟨zfe_83, List.forall_mem_cons.mpr ⟨zfe_84, List.forall_mem_cons.mpr ⟨zfe_85, List.forall_mem_cons.mpr ⟨zfe_86, List.forall_mem_cons.mpr ⟨zfe_87, List.forall_mem_cons.mpr ⟨zfe_88, List.forall_mem_cons.mpr ⟨zfe_89, List.forall_mem_cons.mpr ⟨zfe_90, List.forall_mem_cons.mpr ⟨zfe_91, List.forall_mem_cons.mpr ⟨zfe_92, List.forall_mem_cons.mpr ⟨zfe_93, List.forall_mem_cons.mpr ⟨zfe_94, List.forall_mem_cons.mpr ⟨zfe_95, fun _ h => absurd h List.not_mem_nil⟩⟩⟩⟩⟩⟩⟩⟩⟩⟩⟩⟩⟩⟩⟩⟩
noncomputable def zfes_c6 : List zFe := [(13, 463, 13, 24), (13, 466, 13, 25), (13, 485, 13, 31), (1, 10, 1, 0), (1, 10, 1, 0), (1, 10, 1, 0), (1, 10, 1, 0)]
theorem zfes_r6 : ∀ q ∈ zfes_c6, zfOK q := List.forall_mem_cons.mpr ⟨zfe_96, List.forall_mem_cons.mpr ⟨zfe_97, List.forall_mem_cons.mpr ⟨zfe_98, List.forall_mem_cons.mpr ⟨zfe_0, List.forall_mem_cons.mpr ⟨zfe_0, List.forall_mem_cons.mpr ⟨zfe_0, List.forall_mem_cons.mpr ⟨zfe_0, fun _ h => absurd h List.not_mem_nil⟩⟩⟩⟩⟩⟩⟩
noncomputable def zfes : List zFe := zfes_c0 ++ (zfes_c1 ++ (zfes_c2 ++ (zfes_c3 ++ (zfes_c4 ++ (zfes_c5 ++ (zfes_c6))))))
theorem zfes_ok : ∀ q ∈ zfes, zfOK q := List.forall_mem_append.mpr ⟨zfes_r0, List.forall_mem_append.mpr ⟨zfes_r1, List.forall_mem_append.mpr ⟨zfes_r2, List.forall_mem_append.mpr ⟨zfes_r3, List.forall_mem_append.mpr ⟨zfes_r4, List.forall_mem_append.mpr ⟨zfes_r5, zfes_r6⟩⟩⟩⟩⟩⟩
