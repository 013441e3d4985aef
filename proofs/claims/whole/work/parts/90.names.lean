/-! Names, by program out of the claim's printed ones: classes, methods, entries with the places of their words in lw_tbl -/
def RX0 : String := "RaysOfShapes$Block"
def TX0 : u_T := fun k => match k with
  | 0 => ("RaysOfShapes$Block", "now", "LRaysOfShapes$Places;", true)
  | 1 => ("RaysOfShapes$Block", "carvings", "[LRaysOfShapes$Places;", true)
  | 2 => ("RaysOfShapes$Block", "next", "I", false)
  | 3 => ("RaysOfShapes$Block", "left", "I", false)
  | 4 => ("RaysOfShapes$Block", "inAll", "I", false)
  | _ => ("RaysOfShapes$Block", "drawn", "I", false)
def tyX0 : Nat → FieldType := fun k => match k with
  | 0 => .object "RaysOfShapes$Places"
  | 1 => .array (.object "RaysOfShapes$Places")
  | 2 => .int
  | 3 => .int
  | 4 => .int
  | _ => .int
theorem nmX0 : ∀ a, a < 6 → ∀ b, b < 6 → a ≠ b → (TX0 a).2.1 ≠ (TX0 b).2.1 := by decide +kernel
theorem tyX0_ok : ∀ k, k < 6 → parseFieldDescriptor (TX0 k).2.2.1 = some (tyX0 k) := by decide +kernel
def RX1 : String := "RaysOfShapes$Fraction"
def TX1 : u_T := fun k => match k with
  | 0 => ("RaysOfShapes$Fraction", "num", "J", false)
  | _ => ("RaysOfShapes$Fraction", "den", "J", false)
def tyX1 : Nat → FieldType := fun k => match k with
  | 0 => .long
  | _ => .long
theorem nmX1 : ∀ a, a < 2 → ∀ b, b < 2 → a ≠ b → (TX1 a).2.1 ≠ (TX1 b).2.1 := by decide +kernel
theorem tyX1_ok : ∀ k, k < 2 → parseFieldDescriptor (TX1 k).2.2.1 = some (tyX1 k) := by decide +kernel
def RX2 : String := "RaysOfShapes$Kinds"
def TX2 : u_T := fun k => match k with
  | _ => ("", "", "", false)
def tyX2 : Nat → FieldType := fun k => match k with
  | _ => .int
theorem nmX2 : ∀ a, a < 0 → ∀ b, b < 0 → a ≠ b → (TX2 a).2.1 ≠ (TX2 b).2.1 := by decide +kernel
theorem tyX2_ok : ∀ k, k < 0 → parseFieldDescriptor (TX2 k).2.2.1 = some (tyX2 k) := by decide +kernel
def RX3 : String := "RaysOfShapes$Looker"
def TX3 : u_T := fun k => match k with
  | 0 => ("RaysOfShapes$Looker", "found", "[LRaysOfShapes$Places;", true)
  | 1 => ("RaysOfShapes$Looker", "looked", "[I", true)
  | 2 => ("RaysOfShapes$Looker", "none", "LRaysOfShapes$Places;", true)
  | 3 => ("RaysOfShapes$Looker", "measure", "LRaysOfShapes$Measure;", true)
  | _ => ("RaysOfShapes$Looker", "span", "LRaysOfShapes$Span;", true)
def tyX3 : Nat → FieldType := fun k => match k with
  | 0 => .array (.object "RaysOfShapes$Places")
  | 1 => .array .int
  | 2 => .object "RaysOfShapes$Places"
  | 3 => .object "RaysOfShapes$Measure"
  | _ => .object "RaysOfShapes$Span"
theorem nmX3 : ∀ a, a < 5 → ∀ b, b < 5 → a ≠ b → (TX3 a).2.1 ≠ (TX3 b).2.1 := by decide +kernel
theorem tyX3_ok : ∀ k, k < 5 → parseFieldDescriptor (TX3 k).2.2.1 = some (tyX3 k) := by decide +kernel
def RX4 : String := "RaysOfShapes$Measure"
def TX4 : u_T := fun k => match k with
  | 0 => ("RaysOfShapes$Measure", "points", "[I", true)
  | _ => ("RaysOfShapes$Measure", "worths", "[LRaysOfShapes$Fraction;", true)
def tyX4 : Nat → FieldType := fun k => match k with
  | 0 => .array .int
  | _ => .array (.object "RaysOfShapes$Fraction")
theorem nmX4 : ∀ a, a < 2 → ∀ b, b < 2 → a ≠ b → (TX4 a).2.1 ≠ (TX4 b).2.1 := by decide +kernel
theorem tyX4_ok : ∀ k, k < 2 → parseFieldDescriptor (TX4 k).2.2.1 = some (tyX4 k) := by decide +kernel
def RX5 : String := "RaysOfShapes$Places"
def TX5 : u_T := fun k => match k with
  | _ => ("RaysOfShapes$Places", "words", "[J", true)
def tyX5 : Nat → FieldType := fun k => match k with
  | _ => .array .long
theorem nmX5 : ∀ a, a < 1 → ∀ b, b < 1 → a ≠ b → (TX5 a).2.1 ≠ (TX5 b).2.1 := by decide +kernel
theorem tyX5_ok : ∀ k, k < 1 → parseFieldDescriptor (TX5 k).2.2.1 = some (tyX5 k) := by decide +kernel
def RX6 : String := "RaysOfShapes$Reader"
def TX6 : u_T := fun k => match k with
  | 0 => ("RaysOfShapes$Reader", "tape", "[I", true)
  | 1 => ("RaysOfShapes$Reader", "size", "I", false)
  | 2 => ("RaysOfShapes$Reader", "at", "I", false)
  | 3 => ("RaysOfShapes$Reader", "fault", "I", false)
  | 4 => ("RaysOfShapes$Reader", "made", "I", false)
  | 5 => ("RaysOfShapes$Reader", "open", "I", false)
  | 6 => ("RaysOfShapes$Reader", "openKinds", "[I", true)
  | 7 => ("RaysOfShapes$Reader", "openWords", "[I", true)
  | 8 => ("RaysOfShapes$Reader", "openFirsts", "[I", true)
  | 9 => ("RaysOfShapes$Reader", "openNumbers", "[I", true)
  | _ => ("RaysOfShapes$Reader", "numbers", "[I", true)
def tyX6 : Nat → FieldType := fun k => match k with
  | 0 => .array .int
  | 1 => .int
  | 2 => .int
  | 3 => .int
  | 4 => .int
  | 5 => .int
  | 6 => .array .int
  | 7 => .array .int
  | 8 => .array .int
  | 9 => .array .int
  | _ => .array .int
theorem nmX6 : ∀ a, a < 11 → ∀ b, b < 11 → a ≠ b → (TX6 a).2.1 ≠ (TX6 b).2.1 := by decide +kernel
theorem tyX6_ok : ∀ k, k < 11 → parseFieldDescriptor (TX6 k).2.2.1 = some (tyX6 k) := by decide +kernel
def RX7 : String := "RaysOfShapes$Shelves"
def TX7 : u_T := fun k => match k with
  | 0 => ("RaysOfShapes$Shelves", "held", "[I", true)
  | 1 => ("RaysOfShapes$Shelves", "sizes", "[I", true)
  | _ => ("RaysOfShapes$Shelves", "elements", "[J", true)
def tyX7 : Nat → FieldType := fun k => match k with
  | 0 => .array .int
  | 1 => .array .int
  | _ => .array .long
theorem nmX7 : ∀ a, a < 3 → ∀ b, b < 3 → a ≠ b → (TX7 a).2.1 ≠ (TX7 b).2.1 := by decide +kernel
theorem tyX7_ok : ∀ k, k < 3 → parseFieldDescriptor (TX7 k).2.2.1 = some (tyX7 k) := by decide +kernel
def RX8 : String := "RaysOfShapes$Span"
def TX8 : u_T := fun k => match k with
  | 0 => ("RaysOfShapes$Span", "regions", "[I", true)
  | 1 => ("RaysOfShapes$Span", "lows", "[LRaysOfShapes$Fraction;", true)
  | _ => ("RaysOfShapes$Span", "highs", "[LRaysOfShapes$Fraction;", true)
def tyX8 : Nat → FieldType := fun k => match k with
  | 0 => .array .int
  | 1 => .array (.object "RaysOfShapes$Fraction")
  | _ => .array (.object "RaysOfShapes$Fraction")
theorem nmX8 : ∀ a, a < 3 → ∀ b, b < 3 → a ≠ b → (TX8 a).2.1 ≠ (TX8 b).2.1 := by decide +kernel
theorem tyX8_ok : ∀ k, k < 3 → parseFieldDescriptor (TX8 k).2.2.1 = some (tyX8 k) := by decide +kernel
def RX9 : String := "RaysOfShapes$Table"
def TX9 : u_T := fun k => match k with
  | 0 => ("RaysOfShapes$Table", "kind", "[I", true)
  | 1 => ("RaysOfShapes$Table", "first", "[I", true)
  | 2 => ("RaysOfShapes$Table", "second", "[I", true)
  | 3 => ("RaysOfShapes$Table", "deep", "[I", true)
  | 4 => ("RaysOfShapes$Table", "blends", "[I", true)
  | 5 => ("RaysOfShapes$Table", "solids", "[I", true)
  | 6 => ("RaysOfShapes$Table", "numbers", "[I", true)
  | _ => ("RaysOfShapes$Table", "size", "I", false)
def tyX9 : Nat → FieldType := fun k => match k with
  | 0 => .array .int
  | 1 => .array .int
  | 2 => .array .int
  | 3 => .array .int
  | 4 => .array .int
  | 5 => .array .int
  | 6 => .array .int
  | _ => .int
theorem nmX9 : ∀ a, a < 8 → ∀ b, b < 8 → a ≠ b → (TX9 a).2.1 ≠ (TX9 b).2.1 := by decide +kernel
theorem tyX9_ok : ∀ k, k < 8 → parseFieldDescriptor (TX9 k).2.2.1 = some (tyX9 k) := by decide +kernel
def RX10 : String := "RaysOfShapes$Walker"
def TX10 : u_T := fun k => match k with
  | 0 => ("RaysOfShapes$Walker", "seen", "LRaysOfShapes$Places;", true)
  | 1 => ("RaysOfShapes$Walker", "due", "[I", true)
  | 2 => ("RaysOfShapes$Walker", "stepsTillIn", "I", false)
  | 3 => ("RaysOfShapes$Walker", "placesIn", "I", false)
  | 4 => ("RaysOfShapes$Walker", "timesOver", "I", false)
  | 5 => ("RaysOfShapes$Walker", "parts", "I", false)
  | 6 => ("RaysOfShapes$Walker", "greatest", "I", false)
  | _ => ("RaysOfShapes$Walker", "leastOfGreatest", "I", false)
def tyX10 : Nat → FieldType := fun k => match k with
  | 0 => .object "RaysOfShapes$Places"
  | 1 => .array .int
  | 2 => .int
  | 3 => .int
  | 4 => .int
  | 5 => .int
  | 6 => .int
  | _ => .int
theorem nmX10 : ∀ a, a < 8 → ∀ b, b < 8 → a ≠ b → (TX10 a).2.1 ≠ (TX10 b).2.1 := by decide +kernel
theorem tyX10_ok : ∀ k, k < 8 → parseFieldDescriptor (TX10 k).2.2.1 = some (tyX10 k) := by decide +kernel
def RX11 : String := "RaysOfShapes"
def TX11 : u_T := fun k => match k with
  | 0 => ("RaysOfShapes", "table", "LRaysOfShapes$Table;", true)
  | 1 => ("RaysOfShapes", "keptTable", "LRaysOfShapes$Table;", true)
  | 2 => ("RaysOfShapes", "carved", "LRaysOfShapes$Block;", true)
  | 3 => ("RaysOfShapes", "keptCarved", "LRaysOfShapes$Block;", true)
  | 4 => ("RaysOfShapes", "shelves", "LRaysOfShapes$Shelves;", true)
  | 5 => ("RaysOfShapes", "reader", "LRaysOfShapes$Reader;", true)
  | 6 => ("RaysOfShapes", "looker", "LRaysOfShapes$Looker;", true)
  | 7 => ("RaysOfShapes", "walker", "LRaysOfShapes$Walker;", true)
  | 8 => ("RaysOfShapes", "measure", "LRaysOfShapes$Measure;", true)
  | 9 => ("RaysOfShapes", "span", "LRaysOfShapes$Span;", true)
  | 10 => ("RaysOfShapes", "ballPlaces", "LRaysOfShapes$Places;", true)
  | 11 => ("RaysOfShapes", "numbers", "[I", true)
  | 12 => ("RaysOfShapes", "enoughAt", "[I", true)
  | 13 => ("RaysOfShapes", "refusals", "[I", true)
  | 14 => ("RaysOfShapes", "isKept", "Z", false)
  | _ => ("RaysOfShapes", "keptShapes", "I", false)
def tyX11 : Nat → FieldType := fun k => match k with
  | 0 => .object "RaysOfShapes$Table"
  | 1 => .object "RaysOfShapes$Table"
  | 2 => .object "RaysOfShapes$Block"
  | 3 => .object "RaysOfShapes$Block"
  | 4 => .object "RaysOfShapes$Shelves"
  | 5 => .object "RaysOfShapes$Reader"
  | 6 => .object "RaysOfShapes$Looker"
  | 7 => .object "RaysOfShapes$Walker"
  | 8 => .object "RaysOfShapes$Measure"
  | 9 => .object "RaysOfShapes$Span"
  | 10 => .object "RaysOfShapes$Places"
  | 11 => .array .int
  | 12 => .array .int
  | 13 => .array .int
  | 14 => .boolean
  | _ => .int
theorem nmX11 : ∀ a, a < 16 → ∀ b, b < 16 → a ≠ b → (TX11 a).2.1 ≠ (TX11 b).2.1 := by decide +kernel
theorem tyX11_ok : ∀ k, k < 16 → parseFieldDescriptor (TX11 k).2.2.1 = some (tyX11 k) := by decide +kernel
def RX12 : String := "RaysOfShapesModel"
def TX12 : u_T := fun k => match k with
  | 0 => ("RaysOfShapesModel", "shapes", "[I", true)
  | 1 => ("RaysOfShapesModel", "many", "I", false)
  | 2 => ("RaysOfShapesModel", "refusals", "[I", true)
  | 3 => ("RaysOfShapesModel", "low", "[J", true)
  | 4 => ("RaysOfShapesModel", "high", "[J", true)
  | 5 => ("RaysOfShapesModel", "sets", "[[Z", true)
  | 6 => ("RaysOfShapesModel", "seen", "[Z", true)
  | 7 => ("RaysOfShapesModel", "line", "[I", true)
  | 8 => ("RaysOfShapesModel", "told", "[I", true)
  | 9 => ("RaysOfShapesModel", "words", "[Ljava/lang/String;", true)
  | 10 => ("RaysOfShapesModel", "tape", "[I", true)
  | 11 => ("RaysOfShapesModel", "taped", "I", false)
  | 12 => ("RaysOfShapesModel", "place", "I", false)
  | 13 => ("RaysOfShapesModel", "begin", "I", false)
  | 14 => ("RaysOfShapesModel", "token", "I", false)
  | 15 => ("RaysOfShapesModel", "tokenIs", "I", false)
  | 16 => ("RaysOfShapesModel", "read", "[I", true)
  | 17 => ("RaysOfShapesModel", "readMany", "I", false)
  | 18 => ("RaysOfShapesModel", "begun", "[I", true)
  | 19 => ("RaysOfShapesModel", "sorts", "[I", true)
  | 20 => ("RaysOfShapesModel", "sizes", "[I", true)
  | 21 => ("RaysOfShapesModel", "elements", "[J", true)
  | 22 => ("RaysOfShapesModel", "block", "[Z", true)
  | 23 => ("RaysOfShapesModel", "carved", "[[Z", true)
  | 24 => ("RaysOfShapesModel", "carvings", "I", false)
  | 25 => ("RaysOfShapesModel", "carvedAll", "I", false)
  | 26 => ("RaysOfShapesModel", "seed", "I", false)
  | 27 => ("RaysOfShapesModel", "keptShapes", "[I", true)
  | 28 => ("RaysOfShapesModel", "keptBlock", "[Z", true)
  | 29 => ("RaysOfShapesModel", "keptCarved", "[[Z", true)
  | 30 => ("RaysOfShapesModel", "keptSingles", "[I", true)
  | _ => ("RaysOfShapesModel", "hasImage", "Z", false)
def tyX12 : Nat → FieldType := fun k => match k with
  | 0 => .array .int
  | 1 => .int
  | 2 => .array .int
  | 3 => .array .long
  | 4 => .array .long
  | 5 => .array (.array .boolean)
  | 6 => .array .boolean
  | 7 => .array .int
  | 8 => .array .int
  | 9 => .array (.object "java/lang/String")
  | 10 => .array .int
  | 11 => .int
  | 12 => .int
  | 13 => .int
  | 14 => .int
  | 15 => .int
  | 16 => .array .int
  | 17 => .int
  | 18 => .array .int
  | 19 => .array .int
  | 20 => .array .int
  | 21 => .array .long
  | 22 => .array .boolean
  | 23 => .array (.array .boolean)
  | 24 => .int
  | 25 => .int
  | 26 => .int
  | 27 => .array .int
  | 28 => .array .boolean
  | 29 => .array (.array .boolean)
  | 30 => .array .int
  | _ => .boolean
theorem nmX12 : ∀ a, a < 32 → ∀ b, b < 32 → a ≠ b → (TX12 a).2.1 ≠ (TX12 b).2.1 := by decide +kernel
theorem tyX12_ok : ∀ k, k < 32 → parseFieldDescriptor (TX12 k).2.2.1 = some (tyX12 k) := by decide +kernel
def zcl : List vw_C := [(RX0, TX0, 6), (RX1, TX1, 2), (RX2, TX2, 0), (RX3, TX3, 5), (RX4, TX4, 2), (RX5, TX5, 1), (RX6, TX6, 11), (RX7, TX7, 3), (RX8, TX8, 3), (RX9, TX9, 8), (RX10, TX10, 8), (RX11, TX11, 16), (RX12, TX12, 32)]
set_option maxRecDepth 100000 in
theorem zinX0 : ∀ w ∈ u_ws RX0 TX0 6, w ∈ lw_tbl := by
  have e : u_ws RX0 TX0 6 = [183, 185, 187, 189, 191, 193].filterMap (fun i : Nat => lw_tbl[i]?) := by decide +kernel
  intro w hw
  rw [e] at hw
  obtain ⟨i, -, hi⟩ := List.mem_filterMap.mp hw
  exact List.mem_of_getElem? hi
set_option maxRecDepth 100000 in
theorem zinX1 : ∀ w ∈ u_ws RX1 TX1 2, w ∈ lw_tbl := by
  have e : u_ws RX1 TX1 2 = [275, 277].filterMap (fun i : Nat => lw_tbl[i]?) := by decide +kernel
  intro w hw
  rw [e] at hw
  obtain ⟨i, -, hi⟩ := List.mem_filterMap.mp hw
  exact List.mem_of_getElem? hi
set_option maxRecDepth 100000 in
theorem zinX2 : ∀ w ∈ u_ws RX2 TX2 0, w ∈ lw_tbl := by
  have e : u_ws RX2 TX2 0 = [].filterMap (fun i : Nat => lw_tbl[i]?) := by decide +kernel
  intro w hw
  rw [e] at hw
  obtain ⟨i, -, hi⟩ := List.mem_filterMap.mp hw
  exact List.mem_of_getElem? hi
set_option maxRecDepth 100000 in
theorem zinX3 : ∀ w ∈ u_ws RX3 TX3 5, w ∈ lw_tbl := by
  have e : u_ws RX3 TX3 5 = [310, 312, 314, 316, 318].filterMap (fun i : Nat => lw_tbl[i]?) := by decide +kernel
  intro w hw
  rw [e] at hw
  obtain ⟨i, -, hi⟩ := List.mem_filterMap.mp hw
  exact List.mem_of_getElem? hi
set_option maxRecDepth 100000 in
theorem zinX4 : ∀ w ∈ u_ws RX4 TX4 2, w ∈ lw_tbl := by
  have e : u_ws RX4 TX4 2 = [282, 284].filterMap (fun i : Nat => lw_tbl[i]?) := by decide +kernel
  intro w hw
  rw [e] at hw
  obtain ⟨i, -, hi⟩ := List.mem_filterMap.mp hw
  exact List.mem_of_getElem? hi
set_option maxRecDepth 100000 in
theorem zinX5 : ∀ w ∈ u_ws RX5 TX5 1, w ∈ lw_tbl := by
  have e : u_ws RX5 TX5 1 = [172].filterMap (fun i : Nat => lw_tbl[i]?) := by decide +kernel
  intro w hw
  rw [e] at hw
  obtain ⟨i, -, hi⟩ := List.mem_filterMap.mp hw
  exact List.mem_of_getElem? hi
set_option maxRecDepth 100000 in
theorem zinX6 : ∀ w ∈ u_ws RX6 TX6 11, w ∈ lw_tbl := by
  have e : u_ws RX6 TX6 11 = [229, 231, 233, 235, 237, 239, 241, 243, 245, 247, 249].filterMap (fun i : Nat => lw_tbl[i]?) := by decide +kernel
  intro w hw
  rw [e] at hw
  obtain ⟨i, -, hi⟩ := List.mem_filterMap.mp hw
  exact List.mem_of_getElem? hi
set_option maxRecDepth 100000 in
theorem zinX7 : ∀ w ∈ u_ws RX7 TX7 3, w ∈ lw_tbl := by
  have e : u_ws RX7 TX7 3 = [205, 207, 209].filterMap (fun i : Nat => lw_tbl[i]?) := by decide +kernel
  intro w hw
  rw [e] at hw
  obtain ⟨i, -, hi⟩ := List.mem_filterMap.mp hw
  exact List.mem_of_getElem? hi
set_option maxRecDepth 100000 in
theorem zinX8 : ∀ w ∈ u_ws RX8 TX8 3, w ∈ lw_tbl := by
  have e : u_ws RX8 TX8 3 = [298, 300, 302].filterMap (fun i : Nat => lw_tbl[i]?) := by decide +kernel
  intro w hw
  rw [e] at hw
  obtain ⟨i, -, hi⟩ := List.mem_filterMap.mp hw
  exact List.mem_of_getElem? hi
set_option maxRecDepth 100000 in
theorem zinX9 : ∀ w ∈ u_ws RX9 TX9 8, w ∈ lw_tbl := by
  have e : u_ws RX9 TX9 8 = [141, 143, 145, 147, 149, 151, 153, 155].filterMap (fun i : Nat => lw_tbl[i]?) := by decide +kernel
  intro w hw
  rw [e] at hw
  obtain ⟨i, -, hi⟩ := List.mem_filterMap.mp hw
  exact List.mem_of_getElem? hi
set_option maxRecDepth 100000 in
theorem zinX10 : ∀ w ∈ u_ws RX10 TX10 8, w ∈ lw_tbl := by
  have e : u_ws RX10 TX10 8 = [337, 339, 341, 343, 345, 347, 349, 351].filterMap (fun i : Nat => lw_tbl[i]?) := by decide +kernel
  intro w hw
  rw [e] at hw
  obtain ⟨i, -, hi⟩ := List.mem_filterMap.mp hw
  exact List.mem_of_getElem? hi
set_option maxRecDepth 100000 in
theorem zinX11 : ∀ w ∈ u_ws RX11 TX11 16, w ∈ lw_tbl := by
  have e : u_ws RX11 TX11 16 = [376, 378, 380, 382, 384, 386, 388, 390, 392, 394, 396, 398, 400, 402, 404, 406].filterMap (fun i : Nat => lw_tbl[i]?) := by decide +kernel
  intro w hw
  rw [e] at hw
  obtain ⟨i, -, hi⟩ := List.mem_filterMap.mp hw
  exact List.mem_of_getElem? hi
set_option maxRecDepth 100000 in
theorem zinX12 : ∀ w ∈ u_ws RX12 TX12 32, w ∈ lw_tbl := by
  have e : u_ws RX12 TX12 32 = [1405, 1407, 1409, 1411, 1413, 1415, 1417, 1419, 1421, 1423, 1425, 1427, 1429, 1431, 1433, 1435, 1437, 1439, 1441, 1443, 1445, 1447, 1449, 1451, 1453, 1455, 1457, 1459, 1461, 1463, 1465, 1467].filterMap (fun i : Nat => lw_tbl[i]?) := by decide +kernel
  intro w hw
  rw [e] at hw
  obtain ⟨i, -, hi⟩ := List.mem_filterMap.mp hw
  exact List.mem_of_getElem? hi
def zyns : List MethodName := [⟨"RaysOfShapes$Block", "<init>", "()V"⟩,
  ⟨"RaysOfShapes$Block", "places", "()LRaysOfShapes$Places;"⟩,
  ⟨"RaysOfShapes$Block", "left", "()I"⟩,
  ⟨"RaysOfShapes$Block", "inAll", "()I"⟩,
  ⟨"RaysOfShapes$Block", "drawnFrom", "()I"⟩,
  ⟨"RaysOfShapes$Block", "drawFrom", "(I)V"⟩,
  ⟨"RaysOfShapes$Block", "draw", "(I)I"⟩,
  ⟨"RaysOfShapes$Block", "carveBy", "(LRaysOfShapes$Places;I)I"⟩,
  ⟨"RaysOfShapes$Block", "tellBack", "()V"⟩,
  ⟨"RaysOfShapes$Block", "takeFrom", "(LRaysOfShapes$Block;)V"⟩,
  ⟨"RaysOfShapes$Fraction", "<init>", "()V"⟩,
  ⟨"RaysOfShapes$Fraction", "numerator", "()J"⟩,
  ⟨"RaysOfShapes$Fraction", "denominator", "()J"⟩,
  ⟨"RaysOfShapes$Fraction", "isAboveZero", "()Z"⟩,
  ⟨"RaysOfShapes$Fraction", "isBelowZero", "()Z"⟩,
  ⟨"RaysOfShapes$Fraction", "isAbove", "(LRaysOfShapes$Fraction;)Z"⟩,
  ⟨"RaysOfShapes$Fraction", "putWhole", "(J)V"⟩,
  ⟨"RaysOfShapes$Fraction", "put", "(JJ)V"⟩,
  ⟨"RaysOfShapes$Fraction", "take", "(LRaysOfShapes$Fraction;)V"⟩,
  ⟨"RaysOfShapes$Fraction", "takeLesser", "(LRaysOfShapes$Fraction;)V"⟩,
  ⟨"RaysOfShapes$Fraction", "takeGreater", "(LRaysOfShapes$Fraction;)V"⟩,
  ⟨"RaysOfShapes$Fraction", "changeWith", "(LRaysOfShapes$Fraction;)V"⟩,
  ⟨"RaysOfShapes$Fraction", "turnSign", "()V"⟩,
  ⟨"RaysOfShapes$Fraction", "becomeAmount", "()V"⟩,
  ⟨"RaysOfShapes$Fraction", "lessen", "(II)V"⟩,
  ⟨"RaysOfShapes$Fraction", "mix", "(LRaysOfShapes$Fraction;II)V"⟩,
  ⟨"RaysOfShapes$Kinds", "isUnder", "(II)Z"⟩,
  ⟨"RaysOfShapes$Kinds", "isSolid", "(I)Z"⟩,
  ⟨"RaysOfShapes$Kinds", "isPair", "(I)Z"⟩,
  ⟨"RaysOfShapes$Kinds", "numbersOf", "(I)I"⟩,
  ⟨"RaysOfShapes$Kinds", "allMayBe", "(I[I)Z"⟩,
  ⟨"RaysOfShapes$Kinds", "mayBe", "(II[I)Z"⟩,
  ⟨"RaysOfShapes$Kinds", "isSpot", "(I)Z"⟩,
  ⟨"RaysOfShapes$Kinds", "mayHaveMinus", "(II)Z"⟩,
  ⟨"RaysOfShapes$Kinds", "wordOf", "(I)Ljava/lang/String;"⟩,
  ⟨"RaysOfShapes$Looker", "<init>", "()V"⟩,
  ⟨"RaysOfShapes$Looker", "forgetFrom", "(I)V"⟩,
  ⟨"RaysOfShapes$Looker", "placesOf", "(LRaysOfShapes$Table;I)LRaysOfShapes$Places;"⟩,
  ⟨"RaysOfShapes$Looker", "lookedAt", "(LRaysOfShapes$Table;I)I"⟩,
  ⟨"RaysOfShapes$Looker", "look", "(LRaysOfShapes$Table;III)V"⟩,
  ⟨"RaysOfShapes$Looker", "lookAtEighths", "(LRaysOfShapes$Table;III)V"⟩,
  ⟨"RaysOfShapes$Measure", "<init>", "()V"⟩,
  ⟨"RaysOfShapes$Measure", "worthAt", "(LRaysOfShapes$Table;IIII)LRaysOfShapes$Fraction;"⟩,
  ⟨"RaysOfShapes$Measure", "find", "(LRaysOfShapes$Table;III)V"⟩,
  ⟨"RaysOfShapes$Measure", "ofSolid", "(LRaysOfShapes$Table;III)I"⟩,
  ⟨"RaysOfShapes$Measure", "ofPair", "(LRaysOfShapes$Table;III)V"⟩,
  ⟨"RaysOfShapes$Measure", "ofChange", "(LRaysOfShapes$Table;III)V"⟩,
  ⟨"RaysOfShapes$Measure", "move", "(LRaysOfShapes$Table;II)V"⟩,
  ⟨"RaysOfShapes$Places", "<init>", "()V"⟩,
  ⟨"RaysOfShapes$Places", "contains", "(I)Z"⟩,
  ⟨"RaysOfShapes$Places", "add", "(I)V"⟩,
  ⟨"RaysOfShapes$Places", "addCube", "(IIII)V"⟩,
  ⟨"RaysOfShapes$Places", "clear", "()V"⟩,
  ⟨"RaysOfShapes$Places", "takeFrom", "(LRaysOfShapes$Places;)V"⟩,
  ⟨"RaysOfShapes$Places", "becomeBall", "(IIII)V"⟩,
  ⟨"RaysOfShapes$Places", "becomeCarving", "(LRaysOfShapes$Places;LRaysOfShapes$Places;I)V"⟩,
  ⟨"RaysOfShapes$Places", "flip", "(LRaysOfShapes$Places;)V"⟩,
  ⟨"RaysOfShapes$Places", "size", "()I"⟩,
  ⟨"RaysOfShapes$Places", "sizeOfBoth", "(LRaysOfShapes$Places;)I"⟩,
  ⟨"RaysOfShapes$Places", "sizeOfOne", "(LRaysOfShapes$Places;)I"⟩,
  ⟨"RaysOfShapes$Places", "sizeAt", "(II)I"⟩,
  ⟨"RaysOfShapes$Places", "ofThem", "(I)I"⟩,
  ⟨"RaysOfShapes$Reader", "<init>", "()V"⟩,
  ⟨"RaysOfShapes$Reader", "size", "()I"⟩,
  ⟨"RaysOfShapes$Reader", "made", "()I"⟩,
  ⟨"RaysOfShapes$Reader", "isFull", "()Z"⟩,
  ⟨"RaysOfShapes$Reader", "put", "(I)V"⟩,
  ⟨"RaysOfShapes$Reader", "empty", "()V"⟩,
  ⟨"RaysOfShapes$Reader", "read", "(LRaysOfShapes$Table;)I"⟩,
  ⟨"RaysOfShapes$Reader", "begin", "(LRaysOfShapes$Table;)Z"⟩,
  ⟨"RaysOfShapes$Reader", "begun", "(II)Z"⟩,
  ⟨"RaysOfShapes$Reader", "end", "(LRaysOfShapes$Table;I)Z"⟩,
  ⟨"RaysOfShapes$Reader", "write", "(LRaysOfShapes$Table;III)I"⟩,
  ⟨"RaysOfShapes$Reader", "isFault", "(I)Z"⟩,
  ⟨"RaysOfShapes$Reader", "byteAt", "(I)I"⟩,
  ⟨"RaysOfShapes$Reader", "skipBlanks", "()V"⟩,
  ⟨"RaysOfShapes$Reader", "readSign", "(I)Z"⟩,
  ⟨"RaysOfShapes$Reader", "readWord", "()I"⟩,
  ⟨"RaysOfShapes$Reader", "isWord", "(ILjava/lang/String;)Z"⟩,
  ⟨"RaysOfShapes$Reader", "readNumber", "(II)Z"⟩,
  ⟨"RaysOfShapes$Shelves", "<init>", "()V"⟩,
  ⟨"RaysOfShapes$Shelves", "heldBy", "(I)I"⟩,
  ⟨"RaysOfShapes$Shelves", "sizeOf", "(I)I"⟩,
  ⟨"RaysOfShapes$Shelves", "full", "()I"⟩,
  ⟨"RaysOfShapes$Shelves", "putRow", "(III)V"⟩,
  ⟨"RaysOfShapes$Shelves", "putShape", "(II)V"⟩,
  ⟨"RaysOfShapes$Shelves", "keepShapesBelow", "(I)V"⟩,
  ⟨"RaysOfShapes$Shelves", "isElement", "(II)Z"⟩,
  ⟨"RaysOfShapes$Shelves", "elementOf", "(II)J"⟩,
  ⟨"RaysOfShapes$Shelves", "putElement", "(IIJ)V"⟩,
  ⟨"RaysOfShapes$Shelves", "narrowed", "(IJ)J"⟩,
  ⟨"RaysOfShapes$Shelves", "moveElements", "(IIIII)V"⟩,
  ⟨"RaysOfShapes$Span", "<init>", "()V"⟩,
  ⟨"RaysOfShapes$Span", "putFrom", "(III)V"⟩,
  ⟨"RaysOfShapes$Span", "putTo", "(III)V"⟩,
  ⟨"RaysOfShapes$Span", "lowest", "()LRaysOfShapes$Fraction;"⟩,
  ⟨"RaysOfShapes$Span", "highest", "()LRaysOfShapes$Fraction;"⟩,
  ⟨"RaysOfShapes$Span", "findFor", "(LRaysOfShapes$Table;I)V"⟩,
  ⟨"RaysOfShapes$Span", "find", "(LRaysOfShapes$Table;III)V"⟩,
  ⟨"RaysOfShapes$Span", "ofBall", "(LRaysOfShapes$Table;III)V"⟩,
  ⟨"RaysOfShapes$Span", "ofBox", "(LRaysOfShapes$Table;III)V"⟩,
  ⟨"RaysOfShapes$Span", "ofHalf", "(LRaysOfShapes$Table;III)V"⟩,
  ⟨"RaysOfShapes$Span", "ofPair", "(LRaysOfShapes$Table;III)V"⟩,
  ⟨"RaysOfShapes$Span", "ofChange", "(LRaysOfShapes$Table;III)V"⟩,
  ⟨"RaysOfShapes$Span", "becomeAmounts", "(LRaysOfShapes$Fraction;LRaysOfShapes$Fraction;)V"⟩,
  ⟨"RaysOfShapes$Span", "move", "(LRaysOfShapes$Table;II)V"⟩,
  ⟨"RaysOfShapes$Span", "repeat", "(II)V"⟩,
  ⟨"RaysOfShapes$Span", "mirror", "(II)V"⟩,
  ⟨"RaysOfShapes$Span", "turn", "(II)V"⟩,
  ⟨"RaysOfShapes$Table", "<init>", "()V"⟩,
  ⟨"RaysOfShapes$Table", "size", "()I"⟩,
  ⟨"RaysOfShapes$Table", "resize", "(I)V"⟩,
  ⟨"RaysOfShapes$Table", "kindOf", "(I)I"⟩,
  ⟨"RaysOfShapes$Table", "firstOf", "(I)I"⟩,
  ⟨"RaysOfShapes$Table", "secondOf", "(I)I"⟩,
  ⟨"RaysOfShapes$Table", "deepOf", "(I)I"⟩,
  ⟨"RaysOfShapes$Table", "solidsOf", "(I)I"⟩,
  ⟨"RaysOfShapes$Table", "blendsOf", "(I)I"⟩,
  ⟨"RaysOfShapes$Table", "numberOf", "(II)I"⟩,
  ⟨"RaysOfShapes$Table", "isTooDeep", "(III)Z"⟩,
  ⟨"RaysOfShapes$Table", "deepOver", "(III)I"⟩,
  ⟨"RaysOfShapes$Table", "blendsOver", "(III)I"⟩,
  ⟨"RaysOfShapes$Table", "write", "(IIII[I)V"⟩,
  ⟨"RaysOfShapes$Table", "takeFrom", "(LRaysOfShapes$Table;)V"⟩,
  ⟨"RaysOfShapes$Walker", "<init>", "()V"⟩,
  ⟨"RaysOfShapes$Walker", "stepsTillIn", "()I"⟩,
  ⟨"RaysOfShapes$Walker", "placesIn", "()I"⟩,
  ⟨"RaysOfShapes$Walker", "timesOver", "()I"⟩,
  ⟨"RaysOfShapes$Walker", "parts", "()I"⟩,
  ⟨"RaysOfShapes$Walker", "greatest", "()I"⟩,
  ⟨"RaysOfShapes$Walker", "leastOfGreatest", "()I"⟩,
  ⟨"RaysOfShapes$Walker", "walk", "(LRaysOfShapes$Places;IIII)V"⟩,
  ⟨"RaysOfShapes$Walker", "skinOf", "(LRaysOfShapes$Places;)I"⟩,
  ⟨"RaysOfShapes$Walker", "isBare", "(LRaysOfShapes$Places;I)Z"⟩,
  ⟨"RaysOfShapes$Walker", "neighbour", "(II)I"⟩,
  ⟨"RaysOfShapes$Walker", "part", "(LRaysOfShapes$Places;)V"⟩,
  ⟨"RaysOfShapes$Walker", "sizeOfPiece", "(LRaysOfShapes$Places;I)I"⟩,
  ⟨"RaysOfShapes", "<init>", "()V"⟩,
  ⟨"RaysOfShapes", "row", "(III)I"⟩,
  ⟨"RaysOfShapes", "set", "(IIJ)I"⟩,
  ⟨"RaysOfShapes", "copy", "(IIIII)I"⟩,
  ⟨"RaysOfShapes", "element", "(II)J"⟩,
  ⟨"RaysOfShapes", "holds", "(I)I"⟩,
  ⟨"RaysOfShapes", "show", "(II)I"⟩,
  ⟨"RaysOfShapes", "says", "(II)I"⟩,
  ⟨"RaysOfShapes", "saysRefusal", "(II)I"⟩,
  ⟨"RaysOfShapes", "saidOfNumbers", "(II)I"⟩,
  ⟨"RaysOfShapes", "feed", "(I)I"⟩,
  ⟨"RaysOfShapes", "wipe", "()I"⟩,
  ⟨"RaysOfShapes", "shape", "()I"⟩,
  ⟨"RaysOfShapes", "ball", "(IIII)I"⟩,
  ⟨"RaysOfShapes", "box", "(IIIIII)I"⟩,
  ⟨"RaysOfShapes", "half", "(IIII)I"⟩,
  ⟨"RaysOfShapes", "pair", "(III)I"⟩,
  ⟨"RaysOfShapes", "blend", "(IIII)I"⟩,
  ⟨"RaysOfShapes", "shift", "(IIII)I"⟩,
  ⟨"RaysOfShapes", "change", "(IIII)I"⟩,
  ⟨"RaysOfShapes", "grown", "(IIII)I"⟩,
  ⟨"RaysOfShapes", "putNumbers", "(III)V"⟩,
  ⟨"RaysOfShapes", "built", "(III)I"⟩,
  ⟨"RaysOfShapes", "added", "(I)I"⟩,
  ⟨"RaysOfShapes", "drop", "()I"⟩,
  ⟨"RaysOfShapes", "shapeOf", "(II)I"⟩,
  ⟨"RaysOfShapes", "worth", "(IIIII)J"⟩,
  ⟨"RaysOfShapes", "bounds", "(IIII)J"⟩,
  ⟨"RaysOfShapes", "in", "(II)I"⟩,
  ⟨"RaysOfShapes", "count", "(II)I"⟩,
  ⟨"RaysOfShapes", "placeOf", "(II)I"⟩,
  ⟨"RaysOfShapes", "slice", "(III)I"⟩,
  ⟨"RaysOfShapes", "reach", "(III)I"⟩,
  ⟨"RaysOfShapes", "ray", "(IIIIII)I"⟩,
  ⟨"RaysOfShapes", "skin", "(I)I"⟩,
  ⟨"RaysOfShapes", "pieces", "(II)I"⟩,
  ⟨"RaysOfShapes", "even", "(II)I"⟩,
  ⟨"RaysOfShapes", "both", "(II)I"⟩,
  ⟨"RaysOfShapes", "differ", "(II)I"⟩,
  ⟨"RaysOfShapes", "apart", "(III)I"⟩,
  ⟨"RaysOfShapes", "meets", "(LRaysOfShapes$Places;LRaysOfShapes$Places;II)Z"⟩,
  ⟨"RaysOfShapes", "enough", "(IIII)I"⟩,
  ⟨"RaysOfShapes", "countBlends", "(III)V"⟩,
  ⟨"RaysOfShapes", "kinds", "(IIII)I"⟩,
  ⟨"RaysOfShapes", "isSoOfPair", "(IIIII)Z"⟩,
  ⟨"RaysOfShapes", "isInPair", "(IIII)Z"⟩,
  ⟨"RaysOfShapes", "judge", "(III)I"⟩,
  ⟨"RaysOfShapes", "carve", "(II)I"⟩,
  ⟨"RaysOfShapes", "undo", "()I"⟩,
  ⟨"RaysOfShapes", "block", "(I)I"⟩,
  ⟨"RaysOfShapes", "has", "(I)I"⟩,
  ⟨"RaysOfShapes", "off", "(I)I"⟩,
  ⟨"RaysOfShapes", "days", "(I)I"⟩,
  ⟨"RaysOfShapes", "seed", "(I)I"⟩,
  ⟨"RaysOfShapes", "image", "()I"⟩,
  ⟨"RaysOfShapes", "back", "()I"⟩,
  ⟨"RaysOfShapes", "status", "(I)I"⟩,
  ⟨"RaysOfShapes", "refused", "(I)I"⟩,
  ⟨"RaysOfShapes", "rowRefusal", "(I)I"⟩,
  ⟨"RaysOfShapes", "toldRefusal", "(II)I"⟩,
  ⟨"RaysOfShapes", "isShape", "(I)Z"⟩,
  ⟨"RaysOfShapes", "placesOf", "(I)LRaysOfShapes$Places;"⟩,
  ⟨"RaysOfShapes", "worthIn", "(II)LRaysOfShapes$Fraction;"⟩,
  ⟨"RaysOfShapes", "isBetween", "(III)Z"⟩,
  ⟨"RaysOfShapes", "isShelf", "(I)Z"⟩,
  ⟨"RaysOfShapes", "isPlace", "(I)Z"⟩,
  ⟨"RaysOfShapes", "isAxis", "(I)Z"⟩,
  ⟨"RaysOfShapes", "isNear", "(I)Z"⟩,
  ⟨"RaysOfShapes", "isStep", "(I)Z"⟩,
  ⟨"RaysOfShapes", "isRun", "(III)Z"⟩,
  ⟨"RaysOfShapes", "isRegion", "(II)Z"⟩,
  ⟨"RaysOfShapes", "placeAt", "(III)I"⟩,
  ⟨"RaysOfShapes", "numberOn", "(II)I"⟩,
  ⟨"RaysOfShapes", "shiftOf", "(I)I"⟩,
  ⟨"RaysOfShapes", "moved", "(III)I"⟩,
  ⟨"RaysOfShapesModel", "<init>", "()V"⟩,
  ⟨"RaysOfShapesModel", "is", "(JJJ)Z"⟩,
  ⟨"RaysOfShapesModel", "refused", "(I)I"⟩,
  ⟨"RaysOfShapesModel", "refusedLong", "(I)J"⟩,
  ⟨"RaysOfShapesModel", "of", "(II)I"⟩,
  ⟨"RaysOfShapesModel", "number", "(II)I"⟩,
  ⟨"RaysOfShapesModel", "isShape", "(I)Z"⟩,
  ⟨"RaysOfShapesModel", "worthAt", "(IIII)J"⟩,
  ⟨"RaysOfShapesModel", "beyond", "(III)J"⟩,
  ⟨"RaysOfShapesModel", "blended", "(IJJ)J"⟩,
  ⟨"RaysOfShapesModel", "grownBy", "(I)J"⟩,
  ⟨"RaysOfShapesModel", "pick", "(IIII)I"⟩,
  ⟨"RaysOfShapesModel", "changed", "(IIII)J"⟩,
  ⟨"RaysOfShapesModel", "common", "(JJ)J"⟩,
  ⟨"RaysOfShapesModel", "lowest", "(JZ)J"⟩,
  ⟨"RaysOfShapesModel", "worth", "(IIIII)J"⟩,
  ⟨"RaysOfShapesModel", "leastSquare", "(JJ)J"⟩,
  ⟨"RaysOfShapesModel", "greatestSquare", "(JJ)J"⟩,
  ⟨"RaysOfShapesModel", "bound", "(IIIIIIII)V"⟩,
  ⟨"RaysOfShapesModel", "lowBeyond", "(IIII)J"⟩,
  ⟨"RaysOfShapesModel", "highBeyond", "(IIII)J"⟩,
  ⟨"RaysOfShapesModel", "lesser", "(JJJ)J"⟩,
  ⟨"RaysOfShapesModel", "boundPair", "(IIIIIIII)V"⟩,
  ⟨"RaysOfShapesModel", "isWithin", "(III)Z"⟩,
  ⟨"RaysOfShapesModel", "repeatFrom", "(III)I"⟩,
  ⟨"RaysOfShapesModel", "repeatTo", "(III)I"⟩,
  ⟨"RaysOfShapesModel", "mirrorFrom", "(III)I"⟩,
  ⟨"RaysOfShapesModel", "mirrorTo", "(III)I"⟩,
  ⟨"RaysOfShapesModel", "boundChange", "(IIIIIIII)V"⟩,
  ⟨"RaysOfShapesModel", "boundTurn", "(IIIIIIIIII)V"⟩,
  ⟨"RaysOfShapesModel", "boundGrown", "(II)V"⟩,
  ⟨"RaysOfShapesModel", "xOf", "(I)I"⟩,
  ⟨"RaysOfShapesModel", "yOf", "(I)I"⟩,
  ⟨"RaysOfShapesModel", "zOf", "(I)I"⟩,
  ⟨"RaysOfShapesModel", "isPlace", "(I)Z"⟩,
  ⟨"RaysOfShapesModel", "bounds", "(IIII)J"⟩,
  ⟨"RaysOfShapesModel", "isInside", "(II)Z"⟩,
  ⟨"RaysOfShapesModel", "fills", "(II)I"⟩,
  ⟨"RaysOfShapesModel", "in", "(II)I"⟩,
  ⟨"RaysOfShapesModel", "looked", "(IIIII)I"⟩,
  ⟨"RaysOfShapesModel", "count", "(II)I"⟩,
  ⟨"RaysOfShapesModel", "placeOf", "(II)I"⟩,
  ⟨"RaysOfShapesModel", "axisOf", "(II)I"⟩,
  ⟨"RaysOfShapesModel", "slice", "(III)I"⟩,
  ⟨"RaysOfShapesModel", "reach", "(III)I"⟩,
  ⟨"RaysOfShapesModel", "ray", "(IIIIII)I"⟩,
  ⟨"RaysOfShapesModel", "neighbour", "(II)I"⟩,
  ⟨"RaysOfShapesModel", "skinOf", "(I)I"⟩,
  ⟨"RaysOfShapesModel", "piece", "(II)I"⟩,
  ⟨"RaysOfShapesModel", "piecesOf", "(II)I"⟩,
  ⟨"RaysOfShapesModel", "skin", "(I)I"⟩,
  ⟨"RaysOfShapesModel", "pieces", "(II)I"⟩,
  ⟨"RaysOfShapesModel", "fillsBoth", "(II)I"⟩,
  ⟨"RaysOfShapesModel", "both", "(II)I"⟩,
  ⟨"RaysOfShapesModel", "differ", "(II)I"⟩,
  ⟨"RaysOfShapesModel", "turned", "(II)I"⟩,
  ⟨"RaysOfShapesModel", "even", "(II)I"⟩,
  ⟨"RaysOfShapesModel", "meets", "(II)Z"⟩,
  ⟨"RaysOfShapesModel", "apart", "(III)I"⟩,
  ⟨"RaysOfShapesModel", "blendsOver", "(II)I"⟩,
  ⟨"RaysOfShapesModel", "deepOver", "(II)I"⟩,
  ⟨"RaysOfShapesModel", "enough", "(IIII)I"⟩,
  ⟨"RaysOfShapesModel", "isNumber", "(IIII)Z"⟩,
  ⟨"RaysOfShapesModel", "aheadOf", "([III)I"⟩,
  ⟨"RaysOfShapesModel", "numbersOf", "(I)I"⟩,
  ⟨"RaysOfShapesModel", "areNumbers", "(I)Z"⟩,
  ⟨"RaysOfShapesModel", "deepBy", "(III)I"⟩,
  ⟨"RaysOfShapesModel", "blendsBy", "(III)I"⟩,
  ⟨"RaysOfShapesModel", "isTooDeep", "(III)Z"⟩,
  ⟨"RaysOfShapesModel", "comes", "(IIIII[II)I"⟩,
  ⟨"RaysOfShapesModel", "made", "(III)I"⟩,
  ⟨"RaysOfShapesModel", "tells", "(IIII)V"⟩,
  ⟨"RaysOfShapesModel", "ball", "(IIII)I"⟩,
  ⟨"RaysOfShapesModel", "box", "(IIIIII)I"⟩,
  ⟨"RaysOfShapesModel", "half", "(IIII)I"⟩,
  ⟨"RaysOfShapesModel", "pair", "(III)I"⟩,
  ⟨"RaysOfShapesModel", "blend", "(IIII)I"⟩,
  ⟨"RaysOfShapesModel", "shift", "(IIII)I"⟩,
  ⟨"RaysOfShapesModel", "change", "(IIII)I"⟩,
  ⟨"RaysOfShapesModel", "grown", "(IIII)I"⟩,
  ⟨"RaysOfShapesModel", "looseShelves", "()V"⟩,
  ⟨"RaysOfShapesModel", "drop", "()I"⟩,
  ⟨"RaysOfShapesModel", "solids", "(I)I"⟩,
  ⟨"RaysOfShapesModel", "shapeOf", "(II)I"⟩,
  ⟨"RaysOfShapesModel", "feed", "(I)I"⟩,
  ⟨"RaysOfShapesModel", "wipe", "()I"⟩,
  ⟨"RaysOfShapesModel", "byteAt", "(I)I"⟩,
  ⟨"RaysOfShapesModel", "wordOf", "(II)I"⟩,
  ⟨"RaysOfShapesModel", "next", "()V"⟩,
  ⟨"RaysOfShapesModel", "isSign", "(I)Z"⟩,
  ⟨"RaysOfShapesModel", "isBelow", "(II)Z"⟩,
  ⟨"RaysOfShapesModel", "areRead", "(II)Z"⟩,
  ⟨"RaysOfShapesModel", "shapeRead", "(I)I"⟩,
  ⟨"RaysOfShapesModel", "isClosed", "()Z"⟩,
  ⟨"RaysOfShapesModel", "shape", "()I"⟩,
  ⟨"RaysOfShapesModel", "isShelf", "(I)Z"⟩,
  ⟨"RaysOfShapesModel", "row", "(III)I"⟩,
  ⟨"RaysOfShapesModel", "lowest", "(IJ)J"⟩,
  ⟨"RaysOfShapesModel", "set", "(IIJ)I"⟩,
  ⟨"RaysOfShapesModel", "copy", "(IIIII)I"⟩,
  ⟨"RaysOfShapesModel", "element", "(II)J"⟩,
  ⟨"RaysOfShapesModel", "holds", "(I)I"⟩,
  ⟨"RaysOfShapesModel", "show", "(II)I"⟩,
  ⟨"RaysOfShapesModel", "isUnder", "(II)Z"⟩,
  ⟨"RaysOfShapesModel", "wholePlaces", "(I)I"⟩,
  ⟨"RaysOfShapesModel", "says", "(II)I"⟩,
  ⟨"RaysOfShapesModel", "saysOf", "(II)I"⟩,
  ⟨"RaysOfShapesModel", "isTold", "(II)I"⟩,
  ⟨"RaysOfShapesModel", "isPaired", "(IIII)Z"⟩,
  ⟨"RaysOfShapesModel", "kinds", "(IIII)I"⟩,
  ⟨"RaysOfShapesModel", "judge", "(III)I"⟩,
  ⟨"RaysOfShapesModel", "carves", "(I)I"⟩,
  ⟨"RaysOfShapesModel", "carve", "(II)I"⟩,
  ⟨"RaysOfShapesModel", "undo", "()I"⟩,
  ⟨"RaysOfShapesModel", "blockMany", "()I"⟩,
  ⟨"RaysOfShapesModel", "block", "(I)I"⟩,
  ⟨"RaysOfShapesModel", "has", "(I)I"⟩,
  ⟨"RaysOfShapesModel", "off", "(I)I"⟩,
  ⟨"RaysOfShapesModel", "draw", "(I)I"⟩,
  ⟨"RaysOfShapesModel", "days", "(I)I"⟩,
  ⟨"RaysOfShapesModel", "seed", "(I)I"⟩,
  ⟨"RaysOfShapesModel", "copies", "([Z[Z)V"⟩,
  ⟨"RaysOfShapesModel", "image", "()I"⟩,
  ⟨"RaysOfShapesModel", "back", "()I"⟩,
  ⟨"RaysOfShapesModel", "held", "()I"⟩,
  ⟨"RaysOfShapesModel", "status", "(I)I"⟩,
  ⟨"java/lang/Long", "bitCount", "(J)I"⟩,
  ⟨"java/lang/Math", "floorMod", "(II)I"⟩,
  ⟨"java/lang/Math", "abs", "(J)J"⟩,
  ⟨"java/lang/Math", "max", "(II)I"⟩,
  ⟨"java/lang/Math", "max", "(JJ)J"⟩,
  ⟨"java/lang/Math", "min", "(II)I"⟩,
  ⟨"java/lang/Math", "min", "(JJ)J"⟩,
  ⟨"java/lang/String", "length", "()I"⟩,
  ⟨"java/lang/String", "charAt", "(I)C"⟩,
  ⟨"java/lang/String", "coder", "()B"⟩,
  ⟨"java/lang/String", "isLatin1", "()Z"⟩,
  ⟨"java/lang/String", "checkIndex", "(II)V"⟩,
  ⟨"java/lang/StringLatin1", "charAt", "([BI)C"⟩,
  ⟨"jdk/internal/util/Preconditions", "checkIndex", "(IILjava/util/function/BiFunction;)I"⟩,
  ⟨"RaysOfShapesLaw", "law", "([I)Z"⟩]
noncomputable def zbys : List ByteArray := [prog_2_method_1_code, prog_2_method_2_code, prog_2_method_3_code, prog_2_method_4_code, prog_2_method_5_code, prog_2_method_6_code, prog_2_method_7_code, prog_2_method_8_code, prog_2_method_9_code, prog_2_method_10_code, prog_3_method_1_code, prog_3_method_2_code, prog_3_method_3_code, prog_3_method_4_code, prog_3_method_5_code, prog_3_method_6_code, prog_3_method_7_code, prog_3_method_8_code, prog_3_method_9_code, prog_3_method_10_code, prog_3_method_11_code, prog_3_method_12_code, prog_3_method_13_code, prog_3_method_14_code, prog_3_method_15_code, prog_3_method_16_code, prog_4_method_2_code, prog_4_method_3_code, prog_4_method_4_code, prog_4_method_5_code, prog_4_method_6_code, prog_4_method_7_code, prog_4_method_8_code, prog_4_method_9_code, prog_4_method_10_code, prog_5_method_1_code, prog_5_method_2_code, prog_5_method_3_code, prog_5_method_4_code, prog_5_method_5_code, prog_5_method_6_code, prog_6_method_1_code, prog_6_method_2_code, prog_6_method_3_code, prog_6_method_4_code, prog_6_method_5_code, prog_6_method_6_code, prog_6_method_7_code, prog_7_method_1_code, prog_7_method_2_code, prog_7_method_3_code, prog_7_method_4_code, prog_7_method_5_code, prog_7_method_6_code, prog_7_method_7_code, prog_7_method_8_code, prog_7_method_9_code, prog_7_method_10_code, prog_7_method_11_code, prog_7_method_12_code, prog_7_method_13_code, prog_7_method_14_code, prog_8_method_1_code, prog_8_method_2_code, prog_8_method_3_code, prog_8_method_4_code, prog_8_method_5_code, prog_8_method_6_code, prog_8_method_7_code, prog_8_method_8_code, prog_8_method_9_code, prog_8_method_10_code, prog_8_method_11_code, prog_8_method_12_code, prog_8_method_13_code, prog_8_method_14_code, prog_8_method_15_code, prog_8_method_16_code, prog_8_method_17_code, prog_8_method_18_code, prog_9_method_1_code, prog_9_method_2_code, prog_9_method_3_code, prog_9_method_4_code, prog_9_method_5_code, prog_9_method_6_code, prog_9_method_7_code, prog_9_method_8_code, prog_9_method_9_code, prog_9_method_10_code, prog_9_method_11_code, prog_9_method_12_code, prog_10_method_1_code, prog_10_method_2_code, prog_10_method_3_code, prog_10_method_4_code, prog_10_method_5_code, prog_10_method_6_code, prog_10_method_7_code, prog_10_method_8_code, prog_10_method_9_code, prog_10_method_10_code, prog_10_method_11_code, prog_10_method_12_code, prog_10_method_13_code, prog_10_method_14_code, prog_10_method_15_code, prog_10_method_16_code, prog_10_method_17_code, prog_11_method_1_code, prog_11_method_2_code, prog_11_method_3_code, prog_11_method_4_code, prog_11_method_5_code, prog_11_method_6_code, prog_11_method_7_code, prog_11_method_8_code, prog_11_method_9_code, prog_11_method_10_code, prog_11_method_11_code, prog_11_method_12_code, prog_11_method_13_code, prog_11_method_14_code, prog_11_method_15_code, prog_12_method_1_code, prog_12_method_2_code, prog_12_method_3_code, prog_12_method_4_code, prog_12_method_5_code, prog_12_method_6_code, prog_12_method_7_code, prog_12_method_8_code, prog_12_method_9_code, prog_12_method_10_code, prog_12_method_11_code, prog_12_method_12_code, prog_12_method_13_code, prog_1_method_1_code, prog_1_method_2_code, prog_1_method_3_code, prog_1_method_4_code, prog_1_method_5_code, prog_1_method_6_code, prog_1_method_7_code, prog_1_method_8_code, prog_1_method_9_code, prog_1_method_10_code, prog_1_method_11_code, prog_1_method_12_code, prog_1_method_13_code, prog_1_method_14_code, prog_1_method_15_code, prog_1_method_16_code, prog_1_method_17_code, prog_1_method_18_code, prog_1_method_19_code, prog_1_method_20_code, prog_1_method_21_code, prog_1_method_22_code, prog_1_method_23_code, prog_1_method_24_code, prog_1_method_25_code, prog_1_method_26_code, prog_1_method_27_code, prog_1_method_28_code, prog_1_method_29_code, prog_1_method_30_code, prog_1_method_31_code, prog_1_method_32_code, prog_1_method_33_code, prog_1_method_34_code, prog_1_method_35_code, prog_1_method_36_code, prog_1_method_37_code, prog_1_method_38_code, prog_1_method_39_code, prog_1_method_40_code, prog_1_method_41_code, prog_1_method_42_code, prog_1_method_43_code, prog_1_method_44_code, prog_1_method_45_code, prog_1_method_46_code, prog_1_method_47_code, prog_1_method_48_code, prog_1_method_49_code, prog_1_method_50_code, prog_1_method_51_code, prog_1_method_52_code, prog_1_method_53_code, prog_1_method_54_code, prog_1_method_55_code, prog_1_method_56_code, prog_1_method_57_code, prog_1_method_58_code, prog_1_method_59_code, prog_1_method_60_code, prog_1_method_61_code, prog_1_method_62_code, prog_1_method_63_code, prog_1_method_64_code, prog_1_method_65_code, prog_1_method_66_code, prog_1_method_67_code, prog_1_method_68_code, prog_1_method_69_code, prog_1_method_70_code, prog_1_method_71_code, prog_1_method_72_code, prog_1_method_73_code, prog_1_method_74_code, prog_1_method_75_code, prog_14_method_1_code, prog_14_method_2_code, prog_14_method_3_code, prog_14_method_4_code, prog_14_method_5_code, prog_14_method_6_code, prog_14_method_7_code, prog_14_method_8_code, prog_14_method_9_code, prog_14_method_10_code, prog_14_method_11_code, prog_14_method_12_code, prog_14_method_13_code, prog_14_method_14_code, prog_14_method_15_code, prog_14_method_16_code, prog_14_method_17_code, prog_14_method_18_code, prog_14_method_19_code, prog_14_method_20_code, prog_14_method_21_code, prog_14_method_22_code, prog_14_method_23_code, prog_14_method_24_code, prog_14_method_25_code, prog_14_method_26_code, prog_14_method_27_code, prog_14_method_28_code, prog_14_method_29_code, prog_14_method_30_code, prog_14_method_31_code, prog_14_method_32_code, prog_14_method_33_code, prog_14_method_34_code, prog_14_method_35_code, prog_14_method_36_code, prog_14_method_37_code, prog_14_method_38_code, prog_14_method_39_code, prog_14_method_40_code, prog_14_method_41_code, prog_14_method_42_code, prog_14_method_43_code, prog_14_method_44_code, prog_14_method_45_code, prog_14_method_46_code, prog_14_method_47_code, prog_14_method_48_code, prog_14_method_49_code, prog_14_method_50_code, prog_14_method_51_code, prog_14_method_52_code, prog_14_method_53_code, prog_14_method_54_code, prog_14_method_55_code, prog_14_method_56_code, prog_14_method_57_code, prog_14_method_58_code, prog_14_method_59_code, prog_14_method_60_code, prog_14_method_61_code, prog_14_method_62_code, prog_14_method_63_code, prog_14_method_64_code, prog_14_method_65_code, prog_14_method_66_code, prog_14_method_67_code, prog_14_method_68_code, prog_14_method_69_code, prog_14_method_70_code, prog_14_method_71_code, prog_14_method_72_code, prog_14_method_73_code, prog_14_method_74_code, prog_14_method_75_code, prog_14_method_76_code, prog_14_method_77_code, prog_14_method_78_code, prog_14_method_79_code, prog_14_method_80_code, prog_14_method_81_code, prog_14_method_82_code, prog_14_method_83_code, prog_14_method_84_code, prog_14_method_85_code, prog_14_method_86_code, prog_14_method_87_code, prog_14_method_88_code, prog_14_method_89_code, prog_14_method_90_code, prog_14_method_91_code, prog_14_method_92_code, prog_14_method_93_code, prog_14_method_94_code, prog_14_method_95_code, prog_14_method_96_code, prog_14_method_97_code, prog_14_method_98_code, prog_14_method_99_code, prog_14_method_100_code, prog_14_method_101_code, prog_14_method_102_code, prog_14_method_103_code, prog_14_method_104_code, prog_14_method_105_code, prog_14_method_106_code, prog_14_method_107_code, prog_14_method_108_code, prog_14_method_109_code, prog_14_method_110_code, prog_14_method_111_code, prog_14_method_112_code, prog_14_method_113_code, prog_14_method_114_code, prog_14_method_115_code, prog_14_method_116_code, prog_14_method_117_code, prog_14_method_118_code, prog_14_method_119_code, prog_14_method_120_code, prog_14_method_121_code, prog_14_method_122_code, prog_14_method_123_code, prog_14_method_124_code, prog_14_method_125_code, prog_14_method_126_code, prog_15_method_50_code, prog_16_method_50_code, prog_16_method_61_code, prog_16_method_65_code, prog_16_method_66_code, prog_16_method_69_code, prog_16_method_70_code, prog_17_method_54_code, prog_17_method_56_code, prog_17_method_152_code, prog_17_method_154_code, prog_17_method_155_code, prog_18_method_2_code, prog_21_method_11_code, code]
def zrets : List (Option FieldType) := [none, some (.object "RaysOfShapes$Places"), some .int, some .int, some .int, none, some .int, some .int, none, none, none, some .long, some .long, some .boolean, some .boolean, some .boolean, none, none, none, none, none, none, none, none, none, none, some .boolean, some .boolean, some .boolean, some .int, some .boolean, some .boolean, some .boolean, some .boolean, some (.object "java/lang/String"), none, none, some (.object "RaysOfShapes$Places"), some .int, none, none, none, some (.object "RaysOfShapes$Fraction"), none, some .int, none, none, none, none, some .boolean, none, none, none, none, none, none, none, some .int, some .int, some .int, some .int, some .int, none, some .int, some .int, some .boolean, none, none, some .int, some .boolean, some .boolean, some .boolean, some .int, some .boolean, some .int, none, some .boolean, some .int, some .boolean, some .boolean, none, some .int, some .int, some .int, none, none, none, some .boolean, some .long, none, some .long, none, none, none, none, some (.object "RaysOfShapes$Fraction"), some (.object "RaysOfShapes$Fraction"), none, none, none, none, none, none, none, none, none, none, none, none, none, some .int, none, some .int, some .int, some .int, some .int, some .int, some .int, some .int, some .boolean, some .int, some .int, none, none, none, some .int, some .int, some .int, some .int, some .int, some .int, none, some .int, some .boolean, some .int, none, some .int, none, some .int, some .int, some .int, some .long, some .int, some .int, some .int, some .int, some .int, some .int, some .int, some .int, some .int, some .int, some .int, some .int, some .int, some .int, some .int, some .int, none, some .int, some .int, some .int, some .int, some .long, some .long, some .int, some .int, some .int, some .int, some .int, some .int, some .int, some .int, some .int, some .int, some .int, some .int, some .boolean, some .int, none, some .int, some .boolean, some .boolean, some .int, some .int, some .int, some .int, some .int, some .int, some .int, some .int, some .int, some .int, some .int, some .int, some .int, some .int, some .boolean, some (.object "RaysOfShapes$Places"), some (.object "RaysOfShapes$Fraction"), some .boolean, some .boolean, some .boolean, some .boolean, some .boolean, some .boolean, some .boolean, some .boolean, some .int, some .int, some .int, some .int, none, some .boolean, some .int, some .long, some .int, some .int, some .boolean, some .long, some .long, some .long, some .long, some .int, some .long, some .long, some .long, some .long, some .long, some .long, none, some .long, some .long, some .long, none, some .boolean, some .int, some .int, some .int, some .int, none, none, none, some .int, some .int, some .int, some .boolean, some .long, some .boolean, some .int, some .int, some .int, some .int, some .int, some .int, some .int, some .int, some .int, some .int, some .int, some .int, some .int, some .int, some .int, some .int, some .int, some .int, some .int, some .int, some .boolean, some .int, some .int, some .int, some .int, some .boolean, some .int, some .int, some .boolean, some .int, some .int, some .boolean, some .int, some .int, none, some .int, some .int, some .int, some .int, some .int, some .int, some .int, some .int, none, some .int, some .int, some .int, some .int, some .int, some .int, some .int, none, some .boolean, some .boolean, some .boolean, some .int, some .boolean, some .int, some .boolean, some .int, some .long, some .int, some .int, some .long, some .int, some .int, some .boolean, some .int, some .int, some .int, some .int, some .boolean, some .int, some .int, some .int, some .int, some .int, some .int, some .int, some .int, some .int, some .int, some .int, some .int, none, some .int, some .int, some .int, some .int, some .int, some .int, some .long, some .int, some .long, some .int, some .long, some .int, some .char, some .byte, some .boolean, none, some .char, some .int, some .boolean]
/-- per method: the places of its words code, static or instanceMethod, selects, initialized (of its class); how many parameters -/
def zpls : List (Nat × Nat × Nat × Nat × Nat) := [(163, 162, 0, 101, 0), (1280, 1278, 1279, 101, 0), (1268, 1266, 1267, 101, 0), (1345, 1343, 1344, 101, 0), (1312, 1310, 1311, 101, 0), (1316, 1314, 1315, 101, 1), (1296, 1294, 1295, 101, 1), (1248, 1246, 1247, 101, 2), (1272, 1270, 1271, 101, 0), (1329, 1327, 1328, 101, 1), (271, 270, 0, 107, 0), (1061, 1059, 1060, 107, 0), (1065, 1063, 1064, 107, 0), (643, 641, 642, 107, 0), (727, 725, 726, 107, 0), (597, 595, 596, 107, 1), (576, 574, 575, 107, 1), (614, 612, 613, 107, 2), (589, 587, 588, 107, 1), (593, 591, 592, 107, 1), (602, 600, 601, 107, 1), (733, 731, 732, 107, 1), (606, 604, 605, 107, 0), (635, 633, 634, 107, 0), (639, 637, 638, 107, 2), (610, 608, 609, 107, 3), (512, 511, 0, 112, 2), (560, 559, 0, 112, 1), (579, 578, 0, 112, 1), (903, 902, 0, 112, 1), (1002, 1001, 0, 112, 2), (915, 914, 0, 112, 3), (918, 917, 0, 112, 1), (912, 911, 0, 112, 2), (830, 829, 0, 112, 1), (256, 255, 0, 105, 0), (980, 978, 979, 105, 1), (534, 532, 533, 105, 2), (1095, 1093, 1094, 105, 2), (542, 541, 6, 105, 4), (754, 753, 22, 105, 4), (264, 263, 0, 106, 0), (552, 550, 551, 106, 5), (556, 555, 7, 106, 4), (564, 563, 8, 106, 4), (583, 582, 9, 106, 4), (621, 620, 10, 106, 4), (625, 624, 11, 106, 3), (169, 168, 0, 102, 0), (1087, 1085, 1086, 102, 1), (647, 645, 646, 102, 1), (742, 740, 741, 102, 4), (538, 536, 537, 102, 0), (1333, 1331, 1332, 102, 1), (1301, 1299, 1300, 102, 4), (1253, 1251, 1252, 102, 3), (1258, 1256, 1257, 102, 1), (759, 757, 758, 102, 0), (773, 771, 772, 102, 1), (769, 767, 768, 102, 1), (1114, 1112, 1113, 102, 2), (1104, 1102, 1103, 102, 1), (216, 215, 0, 104, 0), (794, 792, 793, 104, 0), (972, 970, 971, 104, 0), (786, 784, 785, 104, 0), (790, 788, 789, 104, 1), (802, 800, 801, 104, 0), (810, 808, 809, 104, 1), (814, 813, 24, 104, 1), (968, 967, 37, 104, 2), (953, 952, 35, 104, 2), (925, 924, 31, 104, 4), (900, 899, 29, 104, 1), (822, 821, 26, 104, 1), (818, 817, 25, 104, 0), (959, 958, 36, 104, 1), (826, 825, 27, 104, 0), (848, 847, 28, 104, 2), (909, 908, 30, 104, 2), (200, 199, 0, 103, 0), (439, 437, 438, 103, 1), (443, 441, 442, 103, 1), (1349, 1347, 1348, 103, 0), (426, 424, 425, 103, 3), (497, 495, 496, 103, 2), (1043, 1041, 1042, 103, 1), (451, 450, 2, 103, 2), (477, 475, 476, 103, 2), (447, 445, 446, 103, 3), (455, 454, 0, 103, 2), (466, 464, 465, 103, 5), (291, 290, 0, 108, 0), (654, 652, 653, 108, 3), (658, 656, 657, 108, 3), (750, 748, 749, 108, 0), (738, 736, 737, 108, 0), (662, 660, 661, 108, 2), (666, 665, 12, 108, 4), (671, 670, 13, 108, 4), (681, 680, 14, 108, 4), (686, 685, 15, 108, 4), (690, 689, 16, 108, 4), (701, 700, 17, 108, 4), (722, 721, 0, 108, 2), (705, 704, 18, 108, 3), (710, 709, 19, 108, 2), (715, 714, 20, 108, 2), (719, 718, 21, 108, 2), (131, 130, 0, 100, 0), (493, 491, 492, 100, 0), (985, 983, 984, 100, 1), (509, 507, 508, 100, 1), (518, 516, 517, 100, 1), (522, 520, 521, 100, 1), (526, 524, 525, 100, 1), (949, 947, 948, 100, 1), (945, 944, 34, 100, 1), (569, 567, 568, 100, 2), (963, 961, 962, 100, 3), (934, 933, 32, 100, 3), (941, 940, 33, 100, 3), (930, 928, 929, 100, 5), (1324, 1322, 1323, 100, 1), (325, 324, 0, 109, 0), (1137, 1135, 1136, 109, 0), (1141, 1139, 1140, 109, 0), (1145, 1143, 1144, 109, 0), (1177, 1175, 1176, 109, 0), (1181, 1179, 1180, 109, 0), (1185, 1183, 1184, 109, 0), (1129, 1127, 1128, 109, 5), (1153, 1151, 1152, 109, 1), (1156, 1155, 0, 109, 2), (1159, 1158, 0, 109, 2), (1167, 1165, 1166, 109, 1), (1172, 1171, 41, 109, 2), (123, 122, 0, 99, 0), (412, 410, 411, 99, 3), (431, 429, 430, 99, 3), (459, 457, 458, 99, 5), (473, 471, 472, 99, 2), (481, 479, 480, 99, 1), (485, 483, 484, 99, 2), (501, 499, 500, 99, 2), (505, 504, 4, 99, 2), (777, 776, 23, 99, 2), (782, 780, 781, 99, 1), (798, 796, 797, 99, 0), (806, 804, 805, 99, 0), (990, 988, 989, 99, 4), (1010, 1008, 1009, 99, 6), (1014, 1012, 1013, 99, 4), (1018, 1016, 1017, 99, 3), (1022, 1020, 1021, 99, 4), (1026, 1024, 1025, 99, 4), (1030, 1028, 1029, 99, 4), (1034, 1032, 1033, 99, 4), (994, 993, 39, 99, 3), (998, 997, 40, 99, 3), (976, 975, 38, 99, 1), (1038, 1036, 1037, 99, 0), (1047, 1045, 1046, 99, 2), (1052, 1050, 1051, 99, 5), (1069, 1067, 1068, 99, 4), (1083, 1081, 1082, 99, 2), (1091, 1089, 1090, 99, 2), (1100, 1098, 1099, 99, 2), (1109, 1107, 1108, 99, 3), (1118, 1116, 1117, 99, 3), (1122, 1120, 1121, 99, 6), (1149, 1147, 1148, 99, 1), (1163, 1161, 1162, 99, 2), (1189, 1187, 1188, 99, 2), (1194, 1192, 1193, 99, 2), (1198, 1196, 1197, 99, 2), (1202, 1200, 1201, 99, 3), (1205, 1204, 0, 99, 4), (1209, 1207, 1208, 99, 4), (1213, 1212, 42, 99, 3), (1221, 1219, 1220, 99, 4), (1230, 1229, 45, 99, 5), (1234, 1233, 46, 99, 4), (1240, 1238, 1239, 99, 3), (1244, 1242, 1243, 99, 2), (1264, 1262, 1263, 99, 0), (1276, 1274, 1275, 99, 1), (1284, 1282, 1283, 99, 1), (1288, 1286, 1287, 99, 1), (1292, 1290, 1291, 99, 1), (1308, 1306, 1307, 99, 1), (1320, 1318, 1319, 99, 0), (1337, 1335, 1336, 99, 0), (1341, 1339, 1340, 99, 1), (422, 421, 0, 99, 1), (435, 434, 1, 99, 1), (1225, 1224, 44, 99, 2), (489, 488, 3, 99, 1), (530, 529, 5, 99, 1), (1217, 1216, 43, 99, 2), (418, 417, 0, 99, 3), (415, 414, 0, 99, 1), (650, 649, 0, 99, 1), (631, 630, 0, 99, 1), (1055, 1054, 0, 99, 1), (1125, 1124, 0, 99, 1), (462, 461, 0, 99, 3), (1072, 1071, 0, 99, 2), (745, 744, 0, 99, 3), (545, 544, 0, 99, 2), (548, 547, 0, 99, 1), (1133, 1132, 0, 99, 3), (1354, 1353, 0, 110, 0), (1481, 1480, 0, 110, 3), (1491, 1490, 49, 110, 1), (1487, 1486, 48, 110, 1), (1500, 1499, 51, 110, 2), (1504, 1503, 52, 110, 2), (1478, 1477, 47, 110, 1), (1496, 1495, 50, 110, 4), (1509, 1508, 53, 110, 3), (1520, 1519, 54, 110, 3), (1532, 1531, 56, 110, 1), (1528, 1527, 0, 110, 4), (1524, 1523, 55, 110, 4), (1539, 1538, 0, 110, 2), (1536, 1535, 0, 110, 2), (1474, 1472, 1473, 110, 5), (1564, 1563, 0, 110, 2), (1567, 1566, 0, 110, 2), (1561, 1560, 57, 110, 8), (1571, 1570, 58, 110, 4), (1575, 1574, 59, 110, 4), (1578, 1577, 0, 110, 3), (1582, 1581, 60, 110, 8), (1592, 1591, 0, 110, 3), (1589, 1588, 0, 110, 3), (1595, 1594, 0, 110, 3), (1598, 1597, 0, 110, 3), (1602, 1601, 0, 110, 3), (1586, 1585, 61, 110, 8), (1606, 1605, 62, 110, 10), (1610, 1609, 63, 110, 2), (1550, 1549, 0, 110, 1), (1553, 1552, 0, 110, 1), (1556, 1555, 0, 110, 1), (1546, 1545, 0, 110, 1), (1543, 1541, 1542, 110, 4), (1618, 1617, 64, 110, 2), (1626, 1625, 65, 110, 2), (1614, 1612, 1613, 110, 2), (1630, 1629, 66, 110, 5), (1622, 1620, 1621, 110, 2), (1634, 1632, 1633, 110, 2), (1643, 1642, 0, 110, 2), (1638, 1636, 1637, 110, 3), (1647, 1645, 1646, 110, 3), (1651, 1649, 1650, 110, 6), (1664, 1663, 0, 110, 2), (1661, 1660, 67, 110, 1), (1676, 1675, 69, 110, 2), (1672, 1671, 68, 110, 2), (1657, 1655, 1656, 110, 1), (1668, 1666, 1667, 110, 2), (1684, 1683, 70, 110, 2), (1680, 1678, 1679, 110, 2), (1688, 1686, 1687, 110, 2), (1695, 1694, 0, 110, 2), (1692, 1690, 1691, 110, 2), (1703, 1702, 71, 110, 2), (1699, 1697, 1698, 110, 3), (1717, 1716, 73, 110, 2), (1713, 1712, 72, 110, 2), (1707, 1705, 1706, 110, 4), (1742, 1741, 0, 110, 4), (1739, 1738, 0, 110, 3), (1736, 1735, 0, 110, 1), (1733, 1732, 76, 110, 1), (1757, 1756, 78, 110, 3), (1761, 1760, 79, 110, 3), (1753, 1752, 77, 110, 3), (1765, 1764, 80, 110, 7), (1729, 1728, 75, 110, 3), (1725, 1724, 74, 110, 4), (1721, 1719, 1720, 110, 4), (1769, 1767, 1768, 110, 6), (1773, 1771, 1772, 110, 4), (1777, 1775, 1776, 110, 3), (1783, 1781, 1782, 110, 4), (1787, 1785, 1786, 110, 4), (1791, 1789, 1790, 110, 4), (1796, 1794, 1795, 110, 4), (1805, 1804, 81, 110, 0), (1801, 1799, 1800, 110, 0), (1813, 1812, 82, 110, 1), (1809, 1807, 1808, 110, 2), (1817, 1815, 1816, 110, 1), (1822, 1820, 1821, 110, 0), (1834, 1833, 84, 110, 1), (1840, 1839, 85, 110, 2), (1830, 1829, 83, 110, 0), (1860, 1859, 88, 110, 1), (1856, 1855, 0, 110, 2), (1853, 1852, 87, 110, 2), (1849, 1848, 86, 110, 1), (1864, 1863, 89, 110, 0), (1826, 1824, 1825, 110, 0), (1871, 1870, 0, 110, 1), (1868, 1866, 1867, 110, 3), (1879, 1878, 0, 110, 2), (1876, 1874, 1875, 110, 3), (1883, 1881, 1882, 110, 5), (1887, 1885, 1886, 110, 2), (1891, 1889, 1890, 110, 1), (1895, 1893, 1894, 110, 2), (1902, 1901, 0, 110, 2), (1911, 1910, 91, 110, 1), (1899, 1897, 1898, 110, 2), (1907, 1906, 90, 110, 2), (1920, 1919, 92, 110, 2), (1924, 1923, 93, 110, 4), (1915, 1913, 1914, 110, 4), (1928, 1926, 1927, 110, 3), (1936, 1935, 94, 110, 1), (1932, 1930, 1931, 110, 2), (1940, 1938, 1939, 110, 0), (1948, 1947, 95, 110, 0), (1944, 1942, 1943, 110, 1), (1952, 1950, 1951, 110, 1), (1956, 1954, 1955, 110, 1), (1965, 1964, 96, 110, 1), (1960, 1958, 1959, 110, 1), (1970, 1968, 1969, 110, 1), (1977, 1976, 0, 110, 2), (1974, 1972, 1973, 110, 0), (1981, 1979, 1980, 110, 0), (1989, 1988, 97, 110, 0), (1985, 1983, 1984, 110, 1), (762, 761, 0, 114, 1), (628, 627, 0, 113, 2), (617, 616, 0, 113, 1), (572, 571, 0, 113, 2), (1513, 1512, 0, 113, 2), (675, 674, 0, 113, 2), (1516, 1515, 0, 113, 2), (852, 850, 851, 115, 0), (862, 860, 861, 115, 1), (856, 854, 855, 115, 0), (866, 864, 865, 115, 0), (872, 871, 0, 115, 2), (869, 868, 0, 116, 2), (877, 876, 0, 117, 3), (0, 0, 0, 98, 1)]
def zfes : List (String × Nat × Nat × Nat × Nat) := [("RaysOfShapes$Block", 10, 1, 0, 177), ("RaysOfShapes$Block", 16, 1, 1, 178), ("RaysOfShapes$Block", 20, 1, 5, 182), ("RaysOfShapes$Block", 24, 1, 3, 180), ("RaysOfShapes$Block", 27, 1, 4, 181), ("RaysOfShapes$Block", 31, 1, 2, 179), ("RaysOfShapes$Fraction", 7, 2, 1, 274), ("RaysOfShapes$Fraction", 13, 2, 0, 273), ("RaysOfShapes$Kinds", 9, 3, 0, 513), ("RaysOfShapes$Kinds", 15, 3, 0, 904), ("RaysOfShapes$Looker", 11, 4, 0, 305), ("RaysOfShapes$Looker", 17, 4, 1, 306), ("RaysOfShapes$Looker", 22, 4, 2, 307), ("RaysOfShapes$Looker", 29, 4, 3, 308), ("RaysOfShapes$Looker", 36, 4, 4, 309), ("RaysOfShapes$Measure", 9, 5, 0, 280), ("RaysOfShapes$Measure", 17, 5, 1, 281), ("RaysOfShapes$Places", 11, 6, 0, 171), ("RaysOfShapes$Reader", 11, 7, 0, 218), ("RaysOfShapes$Reader", 15, 7, 6, 224), ("RaysOfShapes$Reader", 18, 7, 7, 225), ("RaysOfShapes$Reader", 21, 7, 8, 226), ("RaysOfShapes$Reader", 24, 7, 9, 227), ("RaysOfShapes$Reader", 27, 7, 10, 228), ("RaysOfShapes$Reader", 30, 7, 1, 219), ("RaysOfShapes$Reader", 34, 7, 4, 222), ("RaysOfShapes$Reader", 37, 7, 2, 220), ("RaysOfShapes$Reader", 40, 7, 5, 223), ("RaysOfShapes$Reader", 43, 7, 3, 221), ("RaysOfShapes$Shelves", 9, 8, 0, 202), ("RaysOfShapes$Shelves", 15, 8, 1, 203), ("RaysOfShapes$Shelves", 18, 8, 2, 204), ("RaysOfShapes$Span", 11, 9, 0, 295), ("RaysOfShapes$Span", 17, 9, 1, 296), ("RaysOfShapes$Span", 21, 9, 2, 297), ("RaysOfShapes$Table", 11, 10, 0, 133), ("RaysOfShapes$Table", 15, 10, 1, 134), ("RaysOfShapes$Table", 18, 10, 2, 135), ("RaysOfShapes$Table", 21, 10, 3, 136), ("RaysOfShapes$Table", 24, 10, 4, 137), ("RaysOfShapes$Table", 27, 10, 5, 138), ("RaysOfShapes$Table", 30, 10, 6, 139), ("RaysOfShapes$Table", 33, 10, 7, 140), ("RaysOfShapes$Walker", 12, 11, 0, 329), ("RaysOfShapes$Walker", 18, 11, 1, 330), ("RaysOfShapes$Walker", 22, 11, 2, 331), ("RaysOfShapes$Walker", 26, 11, 3, 332), ("RaysOfShapes$Walker", 29, 11, 4, 333), ("RaysOfShapes$Walker", 32, 11, 5, 334), ("RaysOfShapes$Walker", 35, 11, 6, 335), ("RaysOfShapes$Walker", 38, 11, 7, 336), ("RaysOfShapes", 12, 12, 0, 360), ("RaysOfShapes", 16, 12, 1, 361), ("RaysOfShapes", 22, 12, 2, 362), ("RaysOfShapes", 26, 12, 3, 363), ("RaysOfShapes", 32, 12, 4, 364), ("RaysOfShapes", 39, 12, 5, 365), ("RaysOfShapes", 46, 12, 6, 366), ("RaysOfShapes", 53, 12, 7, 367), ("RaysOfShapes", 60, 12, 8, 368), ("RaysOfShapes", 67, 12, 9, 369), ("RaysOfShapes", 74, 12, 10, 370), ("RaysOfShapes", 78, 12, 11, 371), ("RaysOfShapes", 82, 12, 12, 372), ("RaysOfShapes", 85, 12, 13, 373), ("RaysOfShapes", 228, 12, 15, 375), ("RaysOfShapes", 400, 12, 14, 374), ("RaysOfShapesModel", 9, 13, 0, 1373), ("RaysOfShapesModel", 13, 13, 2, 1375), ("RaysOfShapesModel", 16, 13, 3, 1376), ("RaysOfShapesModel", 20, 13, 4, 1377), ("RaysOfShapesModel", 25, 13, 5, 1378), ("RaysOfShapesModel", 28, 13, 6, 1379), ("RaysOfShapesModel", 32, 13, 7, 1380), ("RaysOfShapesModel", 35, 13, 8, 1381), ("RaysOfShapesModel", 66, 13, 9, 1382), ("RaysOfShapesModel", 70, 13, 10, 1383), ("RaysOfShapesModel", 73, 13, 16, 1389), ("RaysOfShapesModel", 76, 13, 18, 1391), ("RaysOfShapesModel", 79, 13, 19, 1392), ("RaysOfShapesModel", 82, 13, 20, 1393), ("RaysOfShapesModel", 85, 13, 21, 1394), ("RaysOfShapesModel", 88, 13, 22, 1395), ("RaysOfShapesModel", 91, 13, 23, 1396), ("RaysOfShapesModel", 94, 13, 26, 1399), ("RaysOfShapesModel", 98, 13, 27, 1400), ("RaysOfShapesModel", 101, 13, 28, 1401), ("RaysOfShapesModel", 104, 13, 29, 1402), ("RaysOfShapesModel", 107, 13, 30, 1403), ("RaysOfShapesModel", 116, 13, 1, 1374), ("RaysOfShapesModel", 376, 13, 11, 1384), ("RaysOfShapesModel", 387, 13, 12, 1385), ("RaysOfShapesModel", 393, 13, 13, 1386), ("RaysOfShapesModel", 396, 13, 14, 1387), ("RaysOfShapesModel", 406, 13, 15, 1388), ("RaysOfShapesModel", 433, 13, 17, 1390), ("RaysOfShapesModel", 463, 13, 24, 1397), ("RaysOfShapesModel", 466, 13, 25, 1398), ("RaysOfShapesModel", 485, 13, 31, 1404), ("java/lang/String", 9, 0, 0, 1992), ("java/lang/String", 38, 0, 0, 857), ("java/lang/String", 15, 0, 0, 1993), ("java/lang/String", 1053, 0, 0, 873)]
def zmes : List (String × Nat × Nat × String × Nat) := [("RaysOfShapes$Block", 9, 48, "RaysOfShapes", 167), ("RaysOfShapes$Block", 34, 339, "", 1249), ("RaysOfShapes$Block", 40, 55, "", 1250), ("RaysOfShapes$Block", 44, 56, "", 1255), ("RaysOfShapes$Block", 48, 343, "", 1259), ("RaysOfShapes$Block", 51, 57, "", 1260), ("RaysOfShapes$Block", 55, 53, "", 1330), ("RaysOfShapes$Fraction", 16, 340, "", 615), ("RaysOfShapes$Fraction", 22, 15, "", 594), ("RaysOfShapes$Fraction", 26, 18, "", 598), ("RaysOfShapes$Fraction", 30, 17, "", 611), ("RaysOfShapes$Kinds", 18, 29, "", 1003), ("RaysOfShapes$Kinds", 22, 31, "", 1004), ("RaysOfShapes$Kinds", 26, 32, "", 916), ("RaysOfShapes$Kinds", 30, 200, "RaysOfShapes", 919), ("RaysOfShapes$Kinds", 34, 203, "RaysOfShapes", 920), ("RaysOfShapes$Looker", 21, 48, "RaysOfShapes", 259), ("RaysOfShapes$Looker", 28, 41, "", 262), ("RaysOfShapes$Looker", 35, 92, "", 289), ("RaysOfShapes$Looker", 40, 341, "", 981), ("RaysOfShapes$Looker", 46, 52, "", 535), ("RaysOfShapes$Looker", 49, 39, "", 539), ("RaysOfShapes$Looker", 53, 37, "", 1096), ("RaysOfShapes$Looker", 57, 209, "RaysOfShapes", 543), ("RaysOfShapes$Looker", 60, 42, "", 549), ("RaysOfShapes$Looker", 64, 13, "", 640), ("RaysOfShapes$Looker", 70, 50, "", 644), ("RaysOfShapes$Looker", 74, 93, "", 651), ("RaysOfShapes$Looker", 78, 94, "", 655), ("RaysOfShapes$Looker", 81, 97, "", 659), ("RaysOfShapes$Looker", 85, 96, "", 735), ("RaysOfShapes$Looker", 89, 51, "", 739), ("RaysOfShapes$Looker", 93, 95, "", 747), ("RaysOfShapes$Looker", 96, 40, "", 751), ("RaysOfShapes$Looker", 99, 208, "RaysOfShapes", 755), ("RaysOfShapes$Measure", 21, 10, "RaysOfShapes", 269), ("RaysOfShapes$Measure", 22, 43, "", 553), ("RaysOfShapes$Measure", 26, 112, "", 557), ("RaysOfShapes$Measure", 32, 27, "", 558), ("RaysOfShapes$Measure", 38, 44, "", 561), ("RaysOfShapes$Measure", 42, 16, "", 573), ("RaysOfShapes$Measure", 46, 28, "", 577), ("RaysOfShapes$Measure", 49, 45, "", 580), ("RaysOfShapes$Measure", 52, 46, "", 618), ("RaysOfShapes$Measure", 56, 118, "", 566), ("RaysOfShapes$Measure", 60, 341, "", 570), ("RaysOfShapes$Measure", 65, 113, "", 584), ("RaysOfShapes$Measure", 68, 114, "", 585), ("RaysOfShapes$Measure", 71, 18, "", 586), ("RaysOfShapes$Measure", 75, 19, "", 590), ("RaysOfShapes$Measure", 78, 20, "", 599), ("RaysOfShapes$Measure", 81, 22, "", 603), ("RaysOfShapes$Measure", 84, 25, "", 607), ("RaysOfShapes$Measure", 88, 47, "", 622), ("RaysOfShapes$Measure", 92, 23, "", 632), ("RaysOfShapes$Measure", 95, 24, "", 636), ("RaysOfShapes$Measure", 99, 339, "", 626), ("RaysOfShapes$Measure", 102, 203, "RaysOfShapes", 629), ("RaysOfShapes$Places", 15, 202, "RaysOfShapes", 648), ("RaysOfShapes$Places", 19, 208, "RaysOfShapes", 743), ("RaysOfShapes$Places", 23, 50, "", 746), ("RaysOfShapes$Places", 27, 52, "", 1302), ("RaysOfShapes$Places", 30, 341, "", 1303), ("RaysOfShapes$Places", 36, 343, "", 1304), ("RaysOfShapes$Places", 41, 338, "", 760), ("RaysOfShapes$Places", 47, 49, "", 1105), ("RaysOfShapes$Reader", 46, 69, "", 811), ("RaysOfShapes$Reader", 50, 75, "", 815), ("RaysOfShapes$Reader", 53, 77, "", 823), ("RaysOfShapes$Reader", 57, 73, "", 897), ("RaysOfShapes$Reader", 61, 29, "", 901), ("RaysOfShapes$Reader", 67, 79, "", 906), ("RaysOfShapes$Reader", 71, 27, "", 921), ("RaysOfShapes$Reader", 74, 72, "", 922), ("RaysOfShapes$Reader", 78, 71, "", 950), ("RaysOfShapes$Reader", 82, 76, "", 956), ("RaysOfShapes$Reader", 85, 70, "", 965), ("RaysOfShapes$Reader", 94, 343, "", 954), ("RaysOfShapes$Reader", 100, 28, "", 955), ("RaysOfShapes$Reader", 103, 119, "", 960), ("RaysOfShapes$Reader", 109, 110, "", 926), ("RaysOfShapes$Reader", 111, 122, "", 927), ("RaysOfShapes$Reader", 114, 74, "", 819), ("RaysOfShapes$Reader", 117, 200, "RaysOfShapes", 827), ("RaysOfShapes$Reader", 120, 34, "", 828), ("RaysOfShapes$Reader", 124, 78, "", 845), ("RaysOfShapes$Reader", 128, 345, "", 849), ("RaysOfShapes$Reader", 133, 346, "", 859), ("RaysOfShapes$Reader", 137, 33, "", 910), ("RaysOfShapes$Reader", 140, 31, "", 913), ("RaysOfShapes$Shelves", 22, 201, "RaysOfShapes", 427), ("RaysOfShapes$Shelves", 26, 200, "RaysOfShapes", 452), ("RaysOfShapes$Shelves", 30, 87, "", 448), ("RaysOfShapes$Shelves", 34, 90, "", 453), ("RaysOfShapes$Span", 24, 10, "RaysOfShapes", 294), ("RaysOfShapes$Span", 25, 98, "", 663), ("RaysOfShapes$Span", 29, 112, "", 667), ("RaysOfShapes$Span", 35, 99, "", 668), ("RaysOfShapes$Span", 38, 100, "", 678), ("RaysOfShapes$Span", 41, 101, "", 683), ("RaysOfShapes$Span", 44, 102, "", 687), ("RaysOfShapes$Span", 47, 103, "", 698), ("RaysOfShapes$Span", 50, 118, "", 672), ("RaysOfShapes$Span", 54, 343, "", 673), ("RaysOfShapes$Span", 59, 341, "", 676), ("RaysOfShapes$Span", 62, 16, "", 677), ("RaysOfShapes$Span", 67, 113, "", 691), ("RaysOfShapes$Span", 70, 114, "", 692), ("RaysOfShapes$Span", 73, 18, "", 693), ("RaysOfShapes$Span", 77, 19, "", 694), ("RaysOfShapes$Span", 80, 20, "", 695), ("RaysOfShapes$Span", 83, 22, "", 696), ("RaysOfShapes$Span", 86, 25, "", 697), ("RaysOfShapes$Span", 90, 105, "", 702), ("RaysOfShapes$Span", 94, 104, "", 720), ("RaysOfShapes$Span", 98, 24, "", 734), ("RaysOfShapes$Span", 102, 13, "", 723), ("RaysOfShapes$Span", 106, 14, "", 724), ("RaysOfShapes$Span", 109, 23, "", 728), ("RaysOfShapes$Span", 112, 15, "", 729), ("RaysOfShapes$Span", 116, 21, "", 730), ("RaysOfShapes$Span", 119, 203, "RaysOfShapes", 706), ("RaysOfShapes$Span", 123, 106, "", 707), ("RaysOfShapes$Span", 126, 107, "", 712), ("RaysOfShapes$Span", 129, 108, "", 716), ("RaysOfShapes$Span", 132, 339, "", 711), ("RaysOfShapes$Table", 37, 120, "", 931), ("RaysOfShapes$Table", 41, 121, "", 938), ("RaysOfShapes$Table", 44, 27, "", 935), ("RaysOfShapes$Table", 50, 115, "", 936), ("RaysOfShapes$Table", 54, 341, "", 937), ("RaysOfShapes$Table", 60, 117, "", 942), ("RaysOfShapes$Table", 63, 116, "", 946), ("RaysOfShapes$Walker", 11, 48, "RaysOfShapes", 328), ("RaysOfShapes$Walker", 41, 49, "", 1130), ("RaysOfShapes$Walker", 45, 211, "RaysOfShapes", 1131), ("RaysOfShapes$Walker", 49, 133, "", 1154), ("RaysOfShapes$Walker", 53, 134, "", 1157), ("RaysOfShapes$Walker", 57, 52, "", 1168), ("RaysOfShapes$Walker", 60, 136, "", 1169), ("RaysOfShapes$Walker", 64, 50, "", 1173), ("RaysOfShapes", 11, 109, "RaysOfShapes", 129), ("RaysOfShapes", 21, 0, "", 161), ("RaysOfShapes", 31, 80, "", 198), ("RaysOfShapes", 38, 62, "RaysOfShapes", 214), ("RaysOfShapes", 45, 35, "", 254), ("RaysOfShapes", 52, 124, "RaysOfShapes", 323), ("RaysOfShapes", 59, 41, "", 355), ("RaysOfShapes", 66, 92, "", 357), ("RaysOfShapes", 73, 48, "RaysOfShapes", 359), ("RaysOfShapes", 88, 201, "", 413), ("RaysOfShapes", 92, 200, "", 416), ("RaysOfShapes", 96, 194, "", 419), ("RaysOfShapes", 100, 84, "", 423), ("RaysOfShapes", 104, 195, "", 432), ("RaysOfShapes", 107, 82, "", 440), ("RaysOfShapes", 110, 89, "", 444), ("RaysOfShapes", 114, 81, "", 436), ("RaysOfShapes", 117, 206, "", 460), ("RaysOfShapes", 120, 91, "", 463), ("RaysOfShapes", 124, 88, "", 474), ("RaysOfShapes", 128, 197, "", 486), ("RaysOfShapes", 131, 85, "", 494), ("RaysOfShapes", 135, 145, "", 502), ("RaysOfShapes", 139, 113, "", 515), ("RaysOfShapes", 142, 114, "", 519), ("RaysOfShapes", 145, 115, "", 523), ("RaysOfShapes", 148, 198, "", 527), ("RaysOfShapes", 152, 57, "", 756), ("RaysOfShapes", 156, 59, "", 766), ("RaysOfShapes", 160, 58, "", 770), ("RaysOfShapes", 163, 146, "", 774), ("RaysOfShapes", 166, 112, "", 506), ("RaysOfShapes", 169, 26, "", 510), ("RaysOfShapes", 175, 118, "", 778), ("RaysOfShapes", 178, 65, "", 783), ("RaysOfShapes", 182, 66, "", 787), ("RaysOfShapes", 186, 63, "", 791), ("RaysOfShapes", 187, 67, "", 799), ("RaysOfShapes", 190, 68, "", 807), ("RaysOfShapes", 194, 64, "", 969), ("RaysOfShapes", 197, 110, "", 490), ("RaysOfShapes", 198, 160, "", 973), ("RaysOfShapes", 201, 158, "", 991), ("RaysOfShapes", 204, 159, "", 995), ("RaysOfShapes", 208, 27, "", 999), ("RaysOfShapes", 211, 30, "", 1000), ("RaysOfShapes", 215, 119, "", 1005), ("RaysOfShapes", 218, 122, "", 1006), ("RaysOfShapes", 222, 36, "", 977), ("RaysOfShapes", 225, 111, "", 982), ("RaysOfShapes", 232, 343, "", 1039), ("RaysOfShapes", 237, 86, "", 1040), ("RaysOfShapes", 240, 116, "", 1048), ("RaysOfShapes", 243, 204, "", 1053), ("RaysOfShapes", 248, 42, "", 1057), ("RaysOfShapes", 252, 11, "", 1058), ("RaysOfShapes", 258, 12, "", 1062), ("RaysOfShapes", 261, 207, "", 1070), ("RaysOfShapes", 264, 209, "", 1074), ("RaysOfShapes", 267, 93, "", 1075), ("RaysOfShapes", 270, 94, "", 1076), ("RaysOfShapes", 273, 97, "", 1077), ("RaysOfShapes", 277, 95, "", 1078), ("RaysOfShapes", 281, 96, "", 1079), ("RaysOfShapes", 284, 202, "", 1073), ("RaysOfShapes", 287, 49, "", 1084), ("RaysOfShapes", 290, 38, "", 1092), ("RaysOfShapes", 294, 61, "", 1101), ("RaysOfShapes", 297, 203, "", 1110), ("RaysOfShapes", 300, 60, "", 1111), ("RaysOfShapes", 303, 205, "", 1123), ("RaysOfShapes", 306, 131, "", 1126), ("RaysOfShapes", 310, 125, "", 1134), ("RaysOfShapes", 313, 126, "", 1138), ("RaysOfShapes", 316, 127, "", 1142), ("RaysOfShapes", 319, 132, "", 1150), ("RaysOfShapes", 322, 135, "", 1164), ("RaysOfShapes", 326, 128, "", 1174), ("RaysOfShapes", 329, 129, "", 1178), ("RaysOfShapes", 332, 130, "", 1182), ("RaysOfShapes", 335, 211, "", 1190), ("RaysOfShapes", 338, 177, "", 1203), ("RaysOfShapes", 342, 179, "", 1210), ("RaysOfShapes", 345, 199, "", 1214), ("RaysOfShapes", 349, 196, "", 1222), ("RaysOfShapes", 352, 181, "", 1227), ("RaysOfShapes", 356, 182, "", 1231), ("RaysOfShapes", 360, 13, "", 1235), ("RaysOfShapes", 363, 14, "", 1236), ("RaysOfShapes", 366, 7, "", 1245), ("RaysOfShapes", 370, 2, "", 1265), ("RaysOfShapes", 373, 8, "", 1269), ("RaysOfShapes", 376, 1, "", 1277), ("RaysOfShapes", 380, 6, "", 1293), ("RaysOfShapes", 383, 54, "", 1298), ("RaysOfShapes", 387, 4, "", 1309), ("RaysOfShapes", 390, 5, "", 1313), ("RaysOfShapes", 393, 123, "", 1321), ("RaysOfShapes", 397, 9, "", 1326), ("RaysOfShapes", 404, 3, "", 1342), ("RaysOfShapes", 407, 83, "", 1346), ("RaysOfShapes", 412, 37, "", 531), ("RaysOfShapes", 415, 210, "", 546), ("RaysOfShapesModel", 110, 214, "", 1488), ("RaysOfShapesModel", 119, 213, "", 1479), ("RaysOfShapesModel", 123, 216, "", 1497), ("RaysOfShapesModel", 127, 217, "", 1501), ("RaysOfShapesModel", 132, 220, "", 1506), ("RaysOfShapesModel", 136, 342, "", 1511), ("RaysOfShapesModel", 142, 219, "", 1493), ("RaysOfShapesModel", 146, 344, "", 1514), ("RaysOfShapesModel", 149, 221, "", 1517), ("RaysOfShapesModel", 153, 224, "", 1521), ("RaysOfShapesModel", 156, 341, "", 1510), ("RaysOfShapesModel", 158, 339, "", 1525), ("RaysOfShapesModel", 161, 223, "", 1526), ("RaysOfShapesModel", 165, 222, "", 1529), ("RaysOfShapesModel", 169, 340, "", 1533), ("RaysOfShapesModel", 173, 225, "", 1537), ("RaysOfShapesModel", 175, 218, "", 1475), ("RaysOfShapesModel", 183, 215, "", 1484), ("RaysOfShapesModel", 186, 226, "", 1534), ("RaysOfShapesModel", 190, 228, "", 1562), ("RaysOfShapesModel", 193, 229, "", 1565), ("RaysOfShapesModel", 196, 231, "", 1568), ("RaysOfShapesModel", 199, 232, "", 1572), ("RaysOfShapesModel", 202, 233, "", 1576), ("RaysOfShapesModel", 206, 234, "", 1579), ("RaysOfShapesModel", 210, 240, "", 1583), ("RaysOfShapesModel", 213, 230, "", 1558), ("RaysOfShapesModel", 216, 235, "", 1590), ("RaysOfShapesModel", 220, 343, "", 1599), ("RaysOfShapesModel", 222, 236, "", 1587), ("RaysOfShapesModel", 226, 237, "", 1593), ("RaysOfShapesModel", 229, 238, "", 1596), ("RaysOfShapesModel", 232, 239, "", 1600), ("RaysOfShapesModel", 235, 241, "", 1603), ("RaysOfShapesModel", 239, 242, "", 1607), ("RaysOfShapesModel", 245, 246, "", 1544), ("RaysOfShapesModel", 248, 243, "", 1548), ("RaysOfShapesModel", 251, 244, "", 1551), ("RaysOfShapesModel", 254, 245, "", 1554), ("RaysOfShapesModel", 259, 248, "", 1615), ("RaysOfShapesModel", 263, 251, "", 1627), ("RaysOfShapesModel", 267, 249, "", 1623), ("RaysOfShapesModel", 274, 254, "", 1641), ("RaysOfShapesModel", 281, 258, "", 1662), ("RaysOfShapesModel", 284, 260, "", 1673), ("RaysOfShapesModel", 287, 259, "", 1658), ("RaysOfShapesModel", 290, 261, "", 1669), ("RaysOfShapesModel", 293, 264, "", 1681), ("RaysOfShapesModel", 296, 267, "", 1693), ("RaysOfShapesModel", 299, 269, "", 1700), ("RaysOfShapesModel", 306, 272, "", 1710), ("RaysOfShapesModel", 309, 271, "", 1714), ("RaysOfShapesModel", 326, 276, "", 1734), ("RaysOfShapesModel", 329, 275, "", 1737), ("RaysOfShapesModel", 333, 274, "", 1740), ("RaysOfShapesModel", 337, 278, "", 1754), ("RaysOfShapesModel", 340, 279, "", 1758), ("RaysOfShapesModel", 343, 277, "", 1730), ("RaysOfShapesModel", 346, 280, "", 1750), ("RaysOfShapesModel", 349, 281, "", 1762), ("RaysOfShapesModel", 353, 283, "", 1722), ("RaysOfShapesModel", 357, 282, "", 1726), ("RaysOfShapesModel", 368, 292, "", 1802), ("RaysOfShapesModel", 371, 294, "", 1810), ("RaysOfShapesModel", 379, 345, "", 1841), ("RaysOfShapesModel", 383, 346, "", 1842), ("RaysOfShapesModel", 390, 298, "", 1831), ("RaysOfShapesModel", 403, 299, "", 1837), ("RaysOfShapesModel", 414, 300, "", 1827), ("RaysOfShapesModel", 417, 302, "", 1854), ("RaysOfShapesModel", 420, 301, "", 1857), ("RaysOfShapesModel", 423, 303, "", 1850), ("RaysOfShapesModel", 426, 304, "", 1846), ("RaysOfShapesModel", 429, 305, "", 1861), ("RaysOfShapesModel", 438, 307, "", 1869), ("RaysOfShapesModel", 441, 309, "", 1877), ("RaysOfShapesModel", 446, 315, "", 1900), ("RaysOfShapesModel", 449, 318, "", 1904), ("RaysOfShapesModel", 452, 316, "", 1908), ("RaysOfShapesModel", 457, 319, "", 1917), ("RaysOfShapesModel", 460, 320, "", 1921), ("RaysOfShapesModel", 469, 323, "", 1933), ("RaysOfShapesModel", 472, 326, "", 1945), ("RaysOfShapesModel", 478, 330, "", 1962), ("RaysOfShapesModel", 481, 333, "", 1975), ("RaysOfShapesModel", 489, 336, "", 1986), ("java/lang/String", 335, 347, "", 853), ("java/lang/String", 492, 348, "", 863), ("java/lang/String", 495, 350, "", 867), ("java/lang/String", 1059, 351, "", 875), ("java/lang/StringLatin1", 9, 349, "", 870), ("RaysOfShapesLaw", 9, 137, "", 121), ("RaysOfShapesLaw", 12, 212, "", 1352), ("RaysOfShapesLaw", 13, 138, "", 409), ("RaysOfShapesLaw", 17, 308, "", 1865), ("RaysOfShapesLaw", 20, 139, "", 428), ("RaysOfShapesLaw", 24, 310, "", 1873), ("RaysOfShapesLaw", 25, 140, "", 456), ("RaysOfShapesLaw", 29, 311, "", 1880), ("RaysOfShapesLaw", 30, 141, "", 470), ("RaysOfShapesLaw", 34, 312, "", 1884), ("RaysOfShapesLaw", 35, 142, "", 478), ("RaysOfShapesLaw", 39, 313, "", 1888), ("RaysOfShapesLaw", 40, 143, "", 482), ("RaysOfShapesLaw", 44, 314, "", 1892), ("RaysOfShapesLaw", 45, 144, "", 498), ("RaysOfShapesLaw", 48, 317, "", 1896), ("RaysOfShapesLaw", 49, 147, "", 779), ("RaysOfShapesLaw", 52, 296, "", 1814), ("RaysOfShapesLaw", 53, 148, "", 795), ("RaysOfShapesLaw", 57, 297, "", 1819), ("RaysOfShapesLaw", 58, 149, "", 803), ("RaysOfShapesLaw", 61, 306, "", 1823), ("RaysOfShapesLaw", 62, 150, "", 987), ("RaysOfShapesLaw", 66, 284, "", 1718), ("RaysOfShapesLaw", 67, 151, "", 1007), ("RaysOfShapesLaw", 71, 285, "", 1766), ("RaysOfShapesLaw", 72, 152, "", 1011), ("RaysOfShapesLaw", 75, 286, "", 1770), ("RaysOfShapesLaw", 76, 153, "", 1015), ("RaysOfShapesLaw", 79, 287, "", 1774), ("RaysOfShapesLaw", 80, 154, "", 1019), ("RaysOfShapesLaw", 83, 288, "", 1780), ("RaysOfShapesLaw", 84, 155, "", 1023), ("RaysOfShapesLaw", 87, 289, "", 1784), ("RaysOfShapesLaw", 88, 156, "", 1027), ("RaysOfShapesLaw", 91, 290, "", 1788), ("RaysOfShapesLaw", 92, 157, "", 1031), ("RaysOfShapesLaw", 95, 291, "", 1793), ("RaysOfShapesLaw", 96, 161, "", 1035), ("RaysOfShapesLaw", 99, 293, "", 1798), ("RaysOfShapesLaw", 100, 162, "", 1044), ("RaysOfShapesLaw", 103, 295, "", 1806), ("RaysOfShapesLaw", 104, 163, "", 1049), ("RaysOfShapesLaw", 108, 227, "", 1471), ("RaysOfShapesLaw", 109, 164, "", 1066), ("RaysOfShapesLaw", 113, 247, "", 1540), ("RaysOfShapesLaw", 114, 165, "", 1080), ("RaysOfShapesLaw", 117, 250, "", 1611), ("RaysOfShapesLaw", 118, 166, "", 1088), ("RaysOfShapesLaw", 121, 252, "", 1619), ("RaysOfShapesLaw", 122, 167, "", 1097), ("RaysOfShapesLaw", 125, 253, "", 1631), ("RaysOfShapesLaw", 126, 168, "", 1106), ("RaysOfShapesLaw", 129, 255, "", 1635), ("RaysOfShapesLaw", 130, 169, "", 1115), ("RaysOfShapesLaw", 133, 256, "", 1644), ("RaysOfShapesLaw", 134, 170, "", 1119), ("RaysOfShapesLaw", 137, 257, "", 1648), ("RaysOfShapesLaw", 138, 171, "", 1146), ("RaysOfShapesLaw", 141, 262, "", 1654), ("RaysOfShapesLaw", 142, 172, "", 1160), ("RaysOfShapesLaw", 145, 263, "", 1665), ("RaysOfShapesLaw", 146, 174, "", 1191), ("RaysOfShapesLaw", 149, 265, "", 1677), ("RaysOfShapesLaw", 150, 175, "", 1195), ("RaysOfShapesLaw", 153, 266, "", 1685), ("RaysOfShapesLaw", 154, 173, "", 1186), ("RaysOfShapesLaw", 157, 268, "", 1689), ("RaysOfShapesLaw", 158, 176, "", 1199), ("RaysOfShapesLaw", 161, 270, "", 1696), ("RaysOfShapesLaw", 162, 178, "", 1206), ("RaysOfShapesLaw", 165, 273, "", 1704), ("RaysOfShapesLaw", 166, 180, "", 1218), ("RaysOfShapesLaw", 169, 321, "", 1912), ("RaysOfShapesLaw", 170, 183, "", 1237), ("RaysOfShapesLaw", 173, 322, "", 1925), ("RaysOfShapesLaw", 174, 184, "", 1241), ("RaysOfShapesLaw", 177, 324, "", 1929), ("RaysOfShapesLaw", 178, 185, "", 1261), ("RaysOfShapesLaw", 181, 325, "", 1937), ("RaysOfShapesLaw", 182, 186, "", 1273), ("RaysOfShapesLaw", 185, 327, "", 1941), ("RaysOfShapesLaw", 186, 187, "", 1281), ("RaysOfShapesLaw", 189, 328, "", 1949), ("RaysOfShapesLaw", 190, 188, "", 1285), ("RaysOfShapesLaw", 193, 329, "", 1953), ("RaysOfShapesLaw", 194, 189, "", 1289), ("RaysOfShapesLaw", 197, 331, "", 1957), ("RaysOfShapesLaw", 198, 190, "", 1305), ("RaysOfShapesLaw", 201, 332, "", 1967), ("RaysOfShapesLaw", 202, 191, "", 1317), ("RaysOfShapesLaw", 205, 334, "", 1971), ("RaysOfShapesLaw", 206, 192, "", 1334), ("RaysOfShapesLaw", 209, 335, "", 1978), ("RaysOfShapesLaw", 210, 193, "", 1338), ("RaysOfShapesLaw", 213, 337, "", 1982)]
