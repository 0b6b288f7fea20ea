/-! the tables of this claim: classes, fields, methods, links, places; by program (wip/whole/gen_data.py) -/
abbrev hkV : Type := Nat × Int
abbrev hkG : Type := Int → Int → Int
def hkT0 : u_T := fun k => match k with
  | 0 => ("HookBoxes", "box", "LHookBoxes$Box;", true)
  | 1 => ("HookBoxes", "rounder", "LHookBoxes$Rounder;", true)
  | 2 => ("HookBoxes", "products", "LHookBoxes$Products;", true)
  | 3 => ("HookBoxes", "byRoots", "LHookBoxes$Roots;", true)
  | 4 => ("HookBoxes", "multiplier", "LHookBoxes$Multiplier;", true)
  | 5 => ("HookBoxes", "reader", "LHookBoxes$Reader;", true)
  | 6 => ("HookBoxes", "walker", "LHookBoxes$Walker;", true)
  | 7 => ("HookBoxes", "inHand", "LHookBoxes$Sum;", true)
  | 8 => ("HookBoxes", "factor", "LHookBoxes$Sum;", true)
  | 9 => ("HookBoxes", "kept", "LHookBoxes$Sum;", true)
  | 10 => ("HookBoxes", "keptRows", "I", false)
  | 11 => ("HookBoxes", "keptRound", "I", false)
  | _ => ("HookBoxes", "sheets", "[LHookBoxes$Sheet;", true)
def hkY0 : Nat → FieldType := fun k => match k with
  | 0 => .object "HookBoxes$Box"
  | 1 => .object "HookBoxes$Rounder"
  | 2 => .object "HookBoxes$Products"
  | 3 => .object "HookBoxes$Roots"
  | 4 => .object "HookBoxes$Multiplier"
  | 5 => .object "HookBoxes$Reader"
  | 6 => .object "HookBoxes$Walker"
  | 7 => .object "HookBoxes$Sum"
  | 8 => .object "HookBoxes$Sum"
  | 9 => .object "HookBoxes$Sum"
  | 10 => .int
  | 11 => .int
  | _ => .array (.object "HookBoxes$Sheet")
theorem hkYok0 : ∀ k, k < 13 → parseFieldDescriptor (hkT0 k).2.2.1 = some (hkY0 k) := by decide +kernel
theorem hkNm0 : ∀ a, a < 13 → ∀ b, b < 13 → a ≠ b → (hkT0 a).2.1 ≠ (hkT0 b).2.1 := by decide +kernel
set_option maxRecDepth 100000 in
set_option maxHeartbeats 4000000 in
theorem hkWs0 : ∀ w ∈ u_ws "HookBoxes" hkT0 13, w ∈ lw_tbl := by
  intro w hw
  have h : (u_ws "HookBoxes" hkT0 13).map some = [408, 410, 412, 414, 416, 418, 420, 422, 424, 426, 428, 430, 432].map (fun i => lw_tbl[i]?) := by rfl
  have h2 : some w ∈ (u_ws "HookBoxes" hkT0 13).map some := List.mem_map.mpr ⟨w, hw, rfl⟩
  rw [h] at h2
  obtain ⟨i, _, hi⟩ := List.mem_map.mp h2
  exact List.mem_of_getElem? hi
def hkT1 : u_T := fun k => match k with
  | 0 => ("HookBoxes$Box", "rows", "I", false)
  | 1 => ("HookBoxes$Box", "round", "I", false)
  | 2 => ("HookBoxes$Box", "width", "I", false)
  | 3 => ("HookBoxes$Box", "shapes", "I", false)
  | 4 => ("HookBoxes$Box", "lengths", "[I", true)
  | 5 => ("HookBoxes$Box", "sizes", "[I", true)
  | 6 => ("HookBoxes$Box", "words", "[I", true)
  | 7 => ("HookBoxes$Box", "alike", "[I", true)
  | 8 => ("HookBoxes$Box", "alikes", "[I", true)
  | 9 => ("HookBoxes$Box", "slots", "[I", true)
  | 10 => ("HookBoxes$Box", "byWord", "[I", true)
  | _ => ("HookBoxes$Box", "trial", "[I", true)
def hkY1 : Nat → FieldType := fun k => match k with
  | 0 => .int
  | 1 => .int
  | 2 => .int
  | 3 => .int
  | 4 => .array (.int)
  | 5 => .array (.int)
  | 6 => .array (.int)
  | 7 => .array (.int)
  | 8 => .array (.int)
  | 9 => .array (.int)
  | 10 => .array (.int)
  | _ => .array (.int)
theorem hkYok1 : ∀ k, k < 12 → parseFieldDescriptor (hkT1 k).2.2.1 = some (hkY1 k) := by decide +kernel
theorem hkNm1 : ∀ a, a < 12 → ∀ b, b < 12 → a ≠ b → (hkT1 a).2.1 ≠ (hkT1 b).2.1 := by decide +kernel
set_option maxRecDepth 100000 in
set_option maxHeartbeats 4000000 in
theorem hkWs1 : ∀ w ∈ u_ws "HookBoxes$Box" hkT1 12, w ∈ lw_tbl := by
  intro w hw
  have h : (u_ws "HookBoxes$Box" hkT1 12).map some = [151, 153, 155, 157, 159, 161, 163, 165, 167, 169, 171, 173].map (fun i => lw_tbl[i]?) := by rfl
  have h2 : some w ∈ (u_ws "HookBoxes$Box" hkT1 12).map some := List.mem_map.mpr ⟨w, hw, rfl⟩
  rw [h] at h2
  obtain ⟨i, _, hi⟩ := List.mem_map.mp h2
  exact List.mem_of_getElem? hi
def hkT2 : u_T := fun k => match k with
  | 0 => ("HookBoxes$Rounder", "sign", "I", false)
  | 1 => ("HookBoxes$Rounder", "taken", "I", false)
  | 2 => ("HookBoxes$Rounder", "shape", "I", false)
  | 3 => ("HookBoxes$Rounder", "box", "LHookBoxes$Box;", true)
  | _ => ("HookBoxes$Rounder", "beads", "[I", true)
def hkY2 : Nat → FieldType := fun k => match k with
  | 0 => .int
  | 1 => .int
  | 2 => .int
  | 3 => .object "HookBoxes$Box"
  | _ => .array (.int)
theorem hkYok2 : ∀ k, k < 5 → parseFieldDescriptor (hkT2 k).2.2.1 = some (hkY2 k) := by decide +kernel
theorem hkNm2 : ∀ a, a < 5 → ∀ b, b < 5 → a ≠ b → (hkT2 a).2.1 ≠ (hkT2 b).2.1 := by decide +kernel
set_option maxRecDepth 100000 in
set_option maxHeartbeats 4000000 in
theorem hkWs2 : ∀ w ∈ u_ws "HookBoxes$Rounder" hkT2 5, w ∈ lw_tbl := by
  intro w hw
  have h : (u_ws "HookBoxes$Rounder" hkT2 5).map some = [193, 195, 197, 199, 201].map (fun i => lw_tbl[i]?) := by rfl
  have h2 : some w ∈ (u_ws "HookBoxes$Rounder" hkT2 5).map some := List.mem_map.mpr ⟨w, hw, rfl⟩
  rw [h] at h2
  obtain ⟨i, _, hi⟩ := List.mem_map.mp h2
  exact List.mem_of_getElem? hi
def hkT3 : u_T := fun k => match k with
  | 0 => ("HookBoxes$Products", "box", "LHookBoxes$Box;", true)
  | 1 => ("HookBoxes$Products", "rounder", "LHookBoxes$Rounder;", true)
  | 2 => ("HookBoxes$Products", "strips", "[I", true)
  | 3 => ("HookBoxes$Products", "table", "[I", true)
  | 4 => ("HookBoxes$Products", "partial", "[I", true)
  | _ => ("HookBoxes$Products", "grown", "[I", true)
def hkY3 : Nat → FieldType := fun k => match k with
  | 0 => .object "HookBoxes$Box"
  | 1 => .object "HookBoxes$Rounder"
  | 2 => .array (.int)
  | 3 => .array (.int)
  | 4 => .array (.int)
  | _ => .array (.int)
theorem hkYok3 : ∀ k, k < 6 → parseFieldDescriptor (hkT3 k).2.2.1 = some (hkY3 k) := by decide +kernel
theorem hkNm3 : ∀ a, a < 6 → ∀ b, b < 6 → a ≠ b → (hkT3 a).2.1 ≠ (hkT3 b).2.1 := by decide +kernel
set_option maxRecDepth 100000 in
set_option maxHeartbeats 4000000 in
theorem hkWs3 : ∀ w ∈ u_ws "HookBoxes$Products" hkT3 6, w ∈ lw_tbl := by
  intro w hw
  have h : (u_ws "HookBoxes$Products" hkT3 6).map some = [240, 242, 244, 246, 248, 250].map (fun i => lw_tbl[i]?) := by rfl
  have h2 : some w ∈ (u_ws "HookBoxes$Products" hkT3 6).map some := List.mem_map.mpr ⟨w, hw, rfl⟩
  rw [h] at h2
  obtain ⟨i, _, hi⟩ := List.mem_map.mp h2
  exact List.mem_of_getElem? hi
def hkT4 : u_T := fun k => match k with
  | 0 => ("HookBoxes$Roots", "factors", "[I", true)
  | 1 => ("HookBoxes$Roots", "box", "LHookBoxes$Box;", true)
  | 2 => ("HookBoxes$Roots", "powers", "[I", true)
  | 3 => ("HookBoxes$Roots", "inversePowers", "[I", true)
  | 4 => ("HookBoxes$Roots", "chosen", "[I", true)
  | _ => ("HookBoxes$Roots", "ready", "Z", false)
def hkY4 : Nat → FieldType := fun k => match k with
  | 0 => .array (.int)
  | 1 => .object "HookBoxes$Box"
  | 2 => .array (.int)
  | 3 => .array (.int)
  | 4 => .array (.int)
  | _ => .boolean
theorem hkYok4 : ∀ k, k < 6 → parseFieldDescriptor (hkT4 k).2.2.1 = some (hkY4 k) := by decide +kernel
theorem hkNm4 : ∀ a, a < 6 → ∀ b, b < 6 → a ≠ b → (hkT4 a).2.1 ≠ (hkT4 b).2.1 := by decide +kernel
set_option maxRecDepth 100000 in
set_option maxHeartbeats 4000000 in
theorem hkWs4 : ∀ w ∈ u_ws "HookBoxes$Roots" hkT4 6, w ∈ lw_tbl := by
  intro w hw
  have h : (u_ws "HookBoxes$Roots" hkT4 6).map some = [266, 268, 270, 272, 274, 276].map (fun i => lw_tbl[i]?) := by rfl
  have h2 : some w ∈ (u_ws "HookBoxes$Roots" hkT4 6).map some := List.mem_map.mpr ⟨w, hw, rfl⟩
  rw [h] at h2
  obtain ⟨i, _, hi⟩ := List.mem_map.mp h2
  exact List.mem_of_getElem? hi
def hkT5 : u_T := fun k => match k with
  | 0 => ("HookBoxes$Multiplier", "box", "LHookBoxes$Box;", true)
  | 1 => ("HookBoxes$Multiplier", "products", "LHookBoxes$Products;", true)
  | _ => ("HookBoxes$Multiplier", "coming", "[J", true)
def hkY5 : Nat → FieldType := fun k => match k with
  | 0 => .object "HookBoxes$Box"
  | 1 => .object "HookBoxes$Products"
  | _ => .array (.long)
theorem hkYok5 : ∀ k, k < 3 → parseFieldDescriptor (hkT5 k).2.2.1 = some (hkY5 k) := by decide +kernel
theorem hkNm5 : ∀ a, a < 3 → ∀ b, b < 3 → a ≠ b → (hkT5 a).2.1 ≠ (hkT5 b).2.1 := by decide +kernel
set_option maxRecDepth 100000 in
set_option maxHeartbeats 4000000 in
theorem hkWs5 : ∀ w ∈ u_ws "HookBoxes$Multiplier" hkT5 3, w ∈ lw_tbl := by
  intro w hw
  have h : (u_ws "HookBoxes$Multiplier" hkT5 3).map some = [288, 290, 292].map (fun i => lw_tbl[i]?) := by rfl
  have h2 : some w ∈ (u_ws "HookBoxes$Multiplier" hkT5 3).map some := List.mem_map.mpr ⟨w, hw, rfl⟩
  rw [h] at h2
  obtain ⟨i, _, hi⟩ := List.mem_map.mp h2
  exact List.mem_of_getElem? hi
def hkT6 : u_T := fun k => match k with
  | 0 => ("HookBoxes$Reader", "size", "I", false)
  | 1 => ("HookBoxes$Reader", "parts", "I", false)
  | 2 => ("HookBoxes$Reader", "fault", "I", false)
  | 3 => ("HookBoxes$Reader", "spent", "Z", false)
  | 4 => ("HookBoxes$Reader", "totals", "[LHookBoxes$Sum;", true)
  | 5 => ("HookBoxes$Reader", "sides", "[LHookBoxes$Sum;", true)
  | 6 => ("HookBoxes$Reader", "tape", "[I", true)
  | 7 => ("HookBoxes$Reader", "at", "I", false)
  | 8 => ("HookBoxes$Reader", "box", "LHookBoxes$Box;", true)
  | _ => ("HookBoxes$Reader", "multiplier", "LHookBoxes$Multiplier;", true)
def hkY6 : Nat → FieldType := fun k => match k with
  | 0 => .int
  | 1 => .int
  | 2 => .int
  | 3 => .boolean
  | 4 => .array (.object "HookBoxes$Sum")
  | 5 => .array (.object "HookBoxes$Sum")
  | 6 => .array (.int)
  | 7 => .int
  | 8 => .object "HookBoxes$Box"
  | _ => .object "HookBoxes$Multiplier"
theorem hkYok6 : ∀ k, k < 10 → parseFieldDescriptor (hkT6 k).2.2.1 = some (hkY6 k) := by decide +kernel
theorem hkNm6 : ∀ a, a < 10 → ∀ b, b < 10 → a ≠ b → (hkT6 a).2.1 ≠ (hkT6 b).2.1 := by decide +kernel
set_option maxRecDepth 100000 in
set_option maxHeartbeats 4000000 in
theorem hkWs6 : ∀ w ∈ u_ws "HookBoxes$Reader" hkT6 10, w ∈ lw_tbl := by
  intro w hw
  have h : (u_ws "HookBoxes$Reader" hkT6 10).map some = [331, 333, 335, 337, 339, 341, 343, 345, 347, 349].map (fun i => lw_tbl[i]?) := by rfl
  have h2 : some w ∈ (u_ws "HookBoxes$Reader" hkT6 10).map some := List.mem_map.mpr ⟨w, hw, rfl⟩
  rw [h] at h2
  obtain ⟨i, _, hi⟩ := List.mem_map.mp h2
  exact List.mem_of_getElem? hi
def hkT7 : u_T := fun k => match k with
  | _ => ("HookBoxes$Sum", "coefficients", "[I", true)
def hkY7 : Nat → FieldType := fun k => match k with
  | _ => .array (.int)
theorem hkYok7 : ∀ k, k < 1 → parseFieldDescriptor (hkT7 k).2.2.1 = some (hkY7 k) := by decide +kernel
theorem hkNm7 : ∀ a, a < 1 → ∀ b, b < 1 → a ≠ b → (hkT7 a).2.1 ≠ (hkT7 b).2.1 := by decide +kernel
set_option maxRecDepth 100000 in
set_option maxHeartbeats 4000000 in
theorem hkWs7 : ∀ w ∈ u_ws "HookBoxes$Sum" hkT7 1, w ∈ lw_tbl := by
  intro w hw
  have h : (u_ws "HookBoxes$Sum" hkT7 1).map some = [313].map (fun i => lw_tbl[i]?) := by rfl
  have h2 : some w ∈ (u_ws "HookBoxes$Sum" hkT7 1).map some := List.mem_map.mpr ⟨w, hw, rfl⟩
  rw [h] at h2
  obtain ⟨i, _, hi⟩ := List.mem_map.mp h2
  exact List.mem_of_getElem? hi
def hkT8 : u_T := fun k => match k with
  | 0 => ("HookBoxes$Walker", "where", "I", false)
  | 1 => ("HookBoxes$Walker", "taken", "I", false)
  | 2 => ("HookBoxes$Walker", "box", "LHookBoxes$Box;", true)
  | _ => ("HookBoxes$Walker", "products", "LHookBoxes$Products;", true)
def hkY8 : Nat → FieldType := fun k => match k with
  | 0 => .int
  | 1 => .int
  | 2 => .object "HookBoxes$Box"
  | _ => .object "HookBoxes$Products"
theorem hkYok8 : ∀ k, k < 4 → parseFieldDescriptor (hkT8 k).2.2.1 = some (hkY8 k) := by decide +kernel
theorem hkNm8 : ∀ a, a < 4 → ∀ b, b < 4 → a ≠ b → (hkT8 a).2.1 ≠ (hkT8 b).2.1 := by decide +kernel
set_option maxRecDepth 100000 in
set_option maxHeartbeats 4000000 in
theorem hkWs8 : ∀ w ∈ u_ws "HookBoxes$Walker" hkT8 4, w ∈ lw_tbl := by
  intro w hw
  have h : (u_ws "HookBoxes$Walker" hkT8 4).map some = [364, 366, 368, 370].map (fun i => lw_tbl[i]?) := by rfl
  have h2 : some w ∈ (u_ws "HookBoxes$Walker" hkT8 4).map some := List.mem_map.mpr ⟨w, hw, rfl⟩
  rw [h] at h2
  obtain ⟨i, _, hi⟩ := List.mem_map.mp h2
  exact List.mem_of_getElem? hi
def hkT9 : u_T := fun k => match k with
  | 0 => ("HookBoxes$Sheet", "sort", "I", false)
  | 1 => ("HookBoxes$Sheet", "size", "I", false)
  | _ => ("HookBoxes$Sheet", "items", "[I", true)
def hkY9 : Nat → FieldType := fun k => match k with
  | 0 => .int
  | 1 => .int
  | _ => .array (.int)
theorem hkYok9 : ∀ k, k < 3 → parseFieldDescriptor (hkT9 k).2.2.1 = some (hkY9 k) := by decide +kernel
theorem hkNm9 : ∀ a, a < 3 → ∀ b, b < 3 → a ≠ b → (hkT9 a).2.1 ≠ (hkT9 b).2.1 := by decide +kernel
set_option maxRecDepth 100000 in
set_option maxHeartbeats 4000000 in
theorem hkWs9 : ∀ w ∈ u_ws "HookBoxes$Sheet" hkT9 3, w ∈ lw_tbl := by
  intro w hw
  have h : (u_ws "HookBoxes$Sheet" hkT9 3).map some = [388, 390, 392].map (fun i => lw_tbl[i]?) := by rfl
  have h2 : some w ∈ (u_ws "HookBoxes$Sheet" hkT9 3).map some := List.mem_map.mpr ⟨w, hw, rfl⟩
  rw [h] at h2
  obtain ⟨i, _, hi⟩ := List.mem_map.mp h2
  exact List.mem_of_getElem? hi
def hkT10 : u_T := fun k => match k with
  | 0 => ("HookBoxesModel", "rows", "I", false)
  | 1 => ("HookBoxesModel", "round", "I", false)
  | 2 => ("HookBoxesModel", "shapes", "I", false)
  | 3 => ("HookBoxesModel", "length", "[I", true)
  | 4 => ("HookBoxesModel", "shapeBy", "[I", true)
  | 5 => ("HookBoxesModel", "size", "[I", true)
  | 6 => ("HookBoxesModel", "often", "[I", true)
  | 7 => ("HookBoxesModel", "isFound", "[Z", true)
  | 8 => ("HookBoxesModel", "sum", "[I", true)
  | 9 => ("HookBoxesModel", "kept", "[I", true)
  | 10 => ("HookBoxesModel", "keptRows", "I", false)
  | 11 => ("HookBoxesModel", "keptRound", "I", false)
  | 12 => ("HookBoxesModel", "parts", "I", false)
  | 13 => ("HookBoxesModel", "isKept", "Z", false)
  | 14 => ("HookBoxesModel", "now", "[I", true)
  | 15 => ("HookBoxesModel", "bead", "[I", true)
  | 16 => ("HookBoxesModel", "sign", "I", false)
  | 17 => ("HookBoxesModel", "turnsTaken", "I", false)
  | 18 => ("HookBoxesModel", "shapeTaken", "I", false)
  | 19 => ("HookBoxesModel", "from", "[I", true)
  | 20 => ("HookBoxesModel", "into", "[I", true)
  | 21 => ("HookBoxesModel", "strip", "[I", true)
  | 22 => ("HookBoxesModel", "order", "[I", true)
  | 23 => ("HookBoxesModel", "root", "[I", true)
  | 24 => ("HookBoxesModel", "taken", "[I", true)
  | 25 => ("HookBoxesModel", "some", "[I", true)
  | 26 => ("HookBoxesModel", "manySome", "I", false)
  | 27 => ("HookBoxesModel", "hand", "[I", true)
  | 28 => ("HookBoxesModel", "made", "[J", true)
  | 29 => ("HookBoxesModel", "isSpent", "Z", false)
  | 30 => ("HookBoxesModel", "tape", "[I", true)
  | 31 => ("HookBoxesModel", "five", "[I", true)
  | 32 => ("HookBoxesModel", "fed", "I", false)
  | 33 => ("HookBoxesModel", "place", "I", false)
  | 34 => ("HookBoxesModel", "open", "I", false)
  | 35 => ("HookBoxesModel", "walked", "I", false)
  | 36 => ("HookBoxesModel", "sort", "[I", true)
  | 37 => ("HookBoxesModel", "many", "[I", true)
  | 38 => ("HookBoxesModel", "item", "[I", true)
  | _ => ("HookBoxesModel", "moved", "[I", true)
def hkY10 : Nat → FieldType := fun k => match k with
  | 0 => .int
  | 1 => .int
  | 2 => .int
  | 3 => .array (.int)
  | 4 => .array (.int)
  | 5 => .array (.int)
  | 6 => .array (.int)
  | 7 => .array (.boolean)
  | 8 => .array (.int)
  | 9 => .array (.int)
  | 10 => .int
  | 11 => .int
  | 12 => .int
  | 13 => .boolean
  | 14 => .array (.int)
  | 15 => .array (.int)
  | 16 => .int
  | 17 => .int
  | 18 => .int
  | 19 => .array (.int)
  | 20 => .array (.int)
  | 21 => .array (.int)
  | 22 => .array (.int)
  | 23 => .array (.int)
  | 24 => .array (.int)
  | 25 => .array (.int)
  | 26 => .int
  | 27 => .array (.int)
  | 28 => .array (.long)
  | 29 => .boolean
  | 30 => .array (.int)
  | 31 => .array (.int)
  | 32 => .int
  | 33 => .int
  | 34 => .int
  | 35 => .int
  | 36 => .array (.int)
  | 37 => .array (.int)
  | 38 => .array (.int)
  | _ => .array (.int)
theorem hkYok10 : ∀ k, k < 40 → parseFieldDescriptor (hkT10 k).2.2.1 = some (hkY10 k) := by decide +kernel
theorem hkNm10 : ∀ a, a < 40 → ∀ b, b < 40 → a ≠ b → (hkT10 a).2.1 ≠ (hkT10 b).2.1 := by decide +kernel
set_option maxRecDepth 100000 in
set_option maxHeartbeats 4000000 in
theorem hkWs10 : ∀ w ∈ u_ws "HookBoxesModel" hkT10 40, w ∈ lw_tbl := by
  intro w hw
  have h : (u_ws "HookBoxesModel" hkT10 40).map some = [879, 881, 883, 885, 887, 889, 891, 893, 895, 897, 899, 901, 903, 905, 907, 909, 911, 913, 915, 917, 919, 921, 923, 925, 927, 929, 931, 933, 935, 937, 939, 941, 943, 945, 947, 949, 951, 953, 955, 957].map (fun i => lw_tbl[i]?) := by rfl
  have h2 : some w ∈ (u_ws "HookBoxesModel" hkT10 40).map some := List.mem_map.mpr ⟨w, hw, rfl⟩
  rw [h] at h2
  obtain ⟨i, _, hi⟩ := List.mem_map.mp h2
  exact List.mem_of_getElem? hi
def hkCl : List vw_C := [("HookBoxes", hkT0, 13), ("HookBoxes$Box", hkT1, 12), ("HookBoxes$Rounder", hkT2, 5), ("HookBoxes$Products", hkT3, 6), ("HookBoxes$Roots", hkT4, 6), ("HookBoxes$Multiplier", hkT5, 3), ("HookBoxes$Reader", hkT6, 10), ("HookBoxes$Sum", hkT7, 1), ("HookBoxes$Walker", hkT8, 4), ("HookBoxes$Sheet", hkT9, 3), ("HookBoxesModel", hkT10, 40)]
def hkOwns : List String := ["HookBoxes", "HookBoxes$Box", "HookBoxes$Rounder", "HookBoxes$Products", "HookBoxes$Roots", "HookBoxes$Multiplier", "HookBoxes$Reader", "HookBoxes$Sum", "HookBoxes$Walker", "HookBoxes$Sheet", "HookBoxesModel", "HookBoxesLaw", "java/lang/Integer", "java/lang/Math", "java/util/Arrays", "java/lang/Object", "java/lang/System"]
def hkOwnS (k : Nat) : String := hkOwns.getD k ""
def hkFTs : List (List Nat) := [[2, 2, 2, 2, 2, 2, 2, 2, 2, 2, 0, 0, 2], [0, 0, 0, 0, 2, 2, 2, 2, 2, 2, 2, 2], [0, 0, 0, 2, 2], [2, 2, 2, 2, 2, 2], [2, 2, 2, 2, 2, 3], [2, 2, 2], [0, 0, 0, 3, 2, 2, 2, 0, 2, 2], [2], [0, 0, 2, 2], [0, 0, 2], [0, 0, 0, 2, 2, 2, 2, 2, 2, 2, 0, 0, 0, 3, 2, 2, 0, 0, 0, 2, 2, 2, 2, 2, 2, 2, 0, 2, 2, 3, 2, 2, 0, 0, 0, 0, 2, 2, 2, 2]]
def hkFT (ci k : Nat) : Nat := (hkFTs.getD ci []).getD k 9
def hkMs0 : List (MethodName × ByteArray × Nat × Option FieldType × Nat × List Nat × Nat) := [(⟨"HookBoxes", "<init>", "()V"⟩, prog_1_method_1_code, 2, (Option.none : Option Jvm.ClassFile.FieldType), 0, [2], 9),
  (⟨"HookBoxes", "box", "(II)I"⟩, prog_1_method_2_code, 3, (Option.some Jvm.ClassFile.FieldType.int), 0, [2, 0, 0], 0),
  (⟨"HookBoxes", "isOff", "(III)Z"⟩, prog_1_method_30_code, 3, (Option.some Jvm.ClassFile.FieldType.boolean), 0, [0, 0, 0], 3),
  (⟨"HookBoxes", "changeBox", "(II)V"⟩, prog_1_method_29_code, 3, (Option.none : Option Jvm.ClassFile.FieldType), 0, [2, 0, 0], 9),
  (⟨"HookBoxes", "row", "(II)I"⟩, prog_1_method_3_code, 3, (Option.some Jvm.ClassFile.FieldType.int), 0, [2, 0, 0], 0),
  (⟨"HookBoxes", "number", "(I)I"⟩, prog_1_method_4_code, 2, (Option.some Jvm.ClassFile.FieldType.int), 0, [2, 0], 0),
  (⟨"HookBoxes", "of", "(II)I"⟩, prog_1_method_5_code, 3, (Option.some Jvm.ClassFile.FieldType.int), 0, [2, 0, 0], 0),
  (⟨"HookBoxes", "kinds", "(I)I"⟩, prog_1_method_6_code, 4, (Option.some Jvm.ClassFile.FieldType.int), 0, [2, 0], 0),
  (⟨"HookBoxes", "times", "(IIII)I"⟩, prog_1_method_7_code, 6, (Option.some Jvm.ClassFile.FieldType.int), 0, [2, 0, 0, 0, 0], 0),
  (⟨"HookBoxes", "turns", "(III)I"⟩, prog_1_method_8_code, 11, (Option.some Jvm.ClassFile.FieldType.int), 0, [2, 0, 0, 0], 0),
  (⟨"HookBoxes", "around", "(IIII)I"⟩, prog_1_method_9_code, 8, (Option.some Jvm.ClassFile.FieldType.int), 0, [2, 0, 0, 0, 0], 0),
  (⟨"HookBoxes", "hooks", "(II)I"⟩, prog_1_method_10_code, 4, (Option.some Jvm.ClassFile.FieldType.int), 0, [2, 0, 0], 0),
  (⟨"HookBoxes", "isNoSheet", "(I)Z"⟩, prog_1_method_32_code, 1, (Option.some Jvm.ClassFile.FieldType.boolean), 0, [0], 3),
  (⟨"HookBoxes", "roots", "(III)I"⟩, prog_1_method_11_code, 4, (Option.some Jvm.ClassFile.FieldType.int), 0, [2, 0, 0, 0], 0),
  (⟨"HookBoxes", "rootsOf", "(II)I"⟩, prog_1_method_12_code, 5, (Option.some Jvm.ClassFile.FieldType.int), 0, [2, 0, 0], 0),
  (⟨"HookBoxes", "term", "(II)I"⟩, prog_1_method_13_code, 3, (Option.some Jvm.ClassFile.FieldType.int), 0, [2, 0, 0], 0),
  (⟨"HookBoxes", "scaled", "(III)J"⟩, prog_1_method_14_code, 6, (Option.some Jvm.ClassFile.FieldType.long), 0, [2, 0, 0, 0], 1),
  (⟨"HookBoxes", "multiply", "(I)I"⟩, prog_1_method_15_code, 2, (Option.some Jvm.ClassFile.FieldType.int), 0, [2, 0], 0),
  (⟨"HookBoxes", "feed", "(IIIIII)I"⟩, prog_1_method_16_code, 8, (Option.some Jvm.ClassFile.FieldType.int), 0, [2, 0, 0, 0, 0, 0, 0], 0),
  (⟨"HookBoxes", "isNoByte", "(I)Z"⟩, prog_1_method_31_code, 1, (Option.some Jvm.ClassFile.FieldType.boolean), 0, [0], 3),
  (⟨"HookBoxes", "read", "()I"⟩, prog_1_method_17_code, 1, (Option.some Jvm.ClassFile.FieldType.int), 0, [2], 0),
  (⟨"HookBoxes", "drawn", "(III)I"⟩, prog_1_method_18_code, 4, (Option.some Jvm.ClassFile.FieldType.int), 0, [2, 0, 0, 0], 0),
  (⟨"HookBoxes", "chance", "(IIIII)I"⟩, prog_1_method_19_code, 8, (Option.some Jvm.ClassFile.FieldType.int), 0, [2, 0, 0, 0, 0, 0], 0),
  (⟨"HookBoxes", "commonDivisor", "(II)I"⟩, prog_1_method_33_code, 6, (Option.some Jvm.ClassFile.FieldType.int), 0, [0, 0], 0),
  (⟨"HookBoxes", "tells", "(III)I"⟩, prog_1_method_20_code, 6, (Option.some Jvm.ClassFile.FieldType.int), 0, [2, 0, 0, 0], 0),
  (⟨"HookBoxes", "film", "(III)I"⟩, prog_1_method_21_code, 6, (Option.some Jvm.ClassFile.FieldType.int), 0, [2, 0, 0, 0], 0),
  (⟨"HookBoxes", "image", "()I"⟩, prog_1_method_22_code, 1, (Option.some Jvm.ClassFile.FieldType.int), 0, [2], 0),
  (⟨"HookBoxes", "back", "()I"⟩, prog_1_method_23_code, 1, (Option.some Jvm.ClassFile.FieldType.int), 0, [2], 0),
  (⟨"HookBoxes", "load", "(IIII)I"⟩, prog_1_method_24_code, 9, (Option.some Jvm.ClassFile.FieldType.int), 0, [2, 0, 0, 0, 0], 0),
  (⟨"HookBoxes", "count", "(I)I"⟩, prog_1_method_25_code, 2, (Option.some Jvm.ClassFile.FieldType.int), 0, [2, 0], 0),
  (⟨"HookBoxes", "sheet", "(III)I"⟩, prog_1_method_26_code, 4, (Option.some Jvm.ClassFile.FieldType.int), 0, [2, 0, 0, 0], 0),
  (⟨"HookBoxes", "put", "(III)I"⟩, prog_1_method_27_code, 5, (Option.some Jvm.ClassFile.FieldType.int), 0, [2, 0, 0, 0], 0),
  (⟨"HookBoxes", "copy", "(IIIII)I"⟩, prog_1_method_28_code, 8, (Option.some Jvm.ClassFile.FieldType.int), 0, [2, 0, 0, 0, 0, 0], 0),
  (⟨"HookBoxes$Box", "<init>", "()V"⟩, prog_2_method_1_code, 1, (Option.none : Option Jvm.ClassFile.FieldType), 1, [2], 9),
  (⟨"HookBoxes$Box", "become", "(II)V"⟩, prog_2_method_2_code, 4, (Option.none : Option Jvm.ClassFile.FieldType), 1, [2, 0, 0], 9),
  (⟨"HookBoxes$Box", "addShapes", "(III)V"⟩, prog_2_method_3_code, 5, (Option.none : Option Jvm.ClassFile.FieldType), 1, [2, 0, 0, 0], 9),
  (⟨"HookBoxes$Box", "addTrial", "()V"⟩, prog_2_method_4_code, 4, (Option.none : Option Jvm.ClassFile.FieldType), 1, [2], 9),
  (⟨"HookBoxes$Box", "beadOf", "(II)I"⟩, prog_2_method_5_code, 3, (Option.some Jvm.ClassFile.FieldType.int), 1, [2, 0, 0], 0),
  (⟨"HookBoxes$Box", "withWord", "(I)I"⟩, prog_2_method_7_code, 2, (Option.some Jvm.ClassFile.FieldType.int), 1, [2, 0], 0),
  (⟨"HookBoxes$Box", "isShape", "(I)Z"⟩, prog_2_method_6_code, 2, (Option.some Jvm.ClassFile.FieldType.boolean), 1, [2, 0], 3)]
def hkMs1 : List (MethodName × ByteArray × Nat × Option FieldType × Nat × List Nat × Nat) := [(⟨"HookBoxes$Box", "numbered", "(I)I"⟩, prog_2_method_8_code, 8, (Option.some Jvm.ClassFile.FieldType.int), 1, [2, 0], 0),
  (⟨"HookBoxes$Box", "filledRows", "(I)I"⟩, prog_2_method_9_code, 4, (Option.some Jvm.ClassFile.FieldType.int), 1, [2, 0], 0),
  (⟨"HookBoxes$Box", "kindOf", "(I)I"⟩, prog_2_method_10_code, 4, (Option.some Jvm.ClassFile.FieldType.int), 1, [2, 0], 0),
  (⟨"HookBoxes$Box", "dualOf", "(I)I"⟩, prog_2_method_11_code, 2, (Option.some Jvm.ClassFile.FieldType.int), 1, [2, 0], 0),
  (⟨"HookBoxes$Box", "mirrored", "(I)I"⟩, prog_2_method_15_code, 4, (Option.some Jvm.ClassFile.FieldType.int), 1, [2, 0], 0),
  (⟨"HookBoxes$Box", "rolledOf", "(I)I"⟩, prog_2_method_12_code, 3, (Option.some Jvm.ClassFile.FieldType.int), 1, [2, 0], 0),
  (⟨"HookBoxes$Box", "fullWord", "()I"⟩, prog_2_method_14_code, 1, (Option.some Jvm.ClassFile.FieldType.int), 1, [2], 0),
  (⟨"HookBoxes$Box", "turnedWordOf", "(I)I"⟩, prog_2_method_13_code, 2, (Option.some Jvm.ClassFile.FieldType.int), 1, [2, 0], 0),
  (⟨"HookBoxes$Rounder", "<init>", "(LHookBoxes$Box;)V"⟩, prog_7_method_1_code, 2, (Option.none : Option Jvm.ClassFile.FieldType), 2, [2, 2], 9),
  (⟨"HookBoxes$Rounder", "takeRound", "([I)V"⟩, prog_7_method_2_code, 7, (Option.none : Option Jvm.ClassFile.FieldType), 2, [2, 2], 9),
  (⟨"HookBoxes$Products", "<init>", "(LHookBoxes$Box;LHookBoxes$Rounder;)V"⟩, prog_4_method_1_code, 3, (Option.none : Option Jvm.ClassFile.FieldType), 3, [2, 2, 2], 9),
  (⟨"HookBoxes$Products", "renew", "()V"⟩, prog_4_method_2_code, 3, (Option.none : Option Jvm.ClassFile.FieldType), 3, [2], 9),
  (⟨"HookBoxes$Products", "addStrips", "(IIII)V"⟩, prog_4_method_3_code, 8, (Option.none : Option Jvm.ClassFile.FieldType), 3, [2, 0, 0, 0, 0], 9),
  (⟨"HookBoxes$Products", "often", "(III)I"⟩, prog_4_method_4_code, 4, (Option.some Jvm.ClassFile.FieldType.int), 3, [2, 0, 0, 0], 0),
  (⟨"HookBoxes$Products", "placeOf", "(II)I"⟩, prog_4_method_8_code, 4, (Option.some Jvm.ClassFile.FieldType.int), 3, [2, 0, 0], 0),
  (⟨"HookBoxes$Products", "addOrders", "(IIIIII)V"⟩, prog_4_method_9_code, 11, (Option.none : Option Jvm.ClassFile.FieldType), 3, [2, 0, 0, 0, 0, 0, 0], 9),
  (⟨"HookBoxes$Products", "multiplyPartial", "(III)V"⟩, prog_4_method_10_code, 10, (Option.none : Option Jvm.ClassFile.FieldType), 3, [2, 0, 0, 0], 9),
  (⟨"HookBoxes$Products", "turnsTo", "(III)I"⟩, prog_4_method_5_code, 4, (Option.some Jvm.ClassFile.FieldType.int), 3, [2, 0, 0, 0], 0),
  (⟨"HookBoxes$Products", "restOf", "(II)I"⟩, prog_4_method_7_code, 3, (Option.some Jvm.ClassFile.FieldType.int), 3, [2, 0, 0], 0),
  (⟨"HookBoxes$Products", "firstIn", "(II)I"⟩, prog_4_method_6_code, 6, (Option.some Jvm.ClassFile.FieldType.int), 3, [2, 0, 0], 0),
  (⟨"HookBoxes$Roots", "<init>", "(LHookBoxes$Box;)V"⟩, prog_6_method_1_code, 2, (Option.none : Option Jvm.ClassFile.FieldType), 4, [2, 2], 9),
  (⟨"HookBoxes$Roots", "forget", "()V"⟩, prog_6_method_2_code, 1, (Option.none : Option Jvm.ClassFile.FieldType), 4, [2], 9),
  (⟨"HookBoxes$Roots", "often", "(II)I"⟩, prog_6_method_5_code, 5, (Option.some Jvm.ClassFile.FieldType.int), 4, [2, 0, 0], 0),
  (⟨"HookBoxes$Roots", "prepare", "()V"⟩, prog_6_method_3_code, 4, (Option.none : Option Jvm.ClassFile.FieldType), 4, [2], 9),
  (⟨"HookBoxes$Roots", "power", "(II)I"⟩, prog_6_method_10_code, 5, (Option.some Jvm.ClassFile.FieldType.int), 4, [0, 0], 0),
  (⟨"HookBoxes$Roots", "fillPowers", "([III)V"⟩, prog_6_method_4_code, 6, (Option.none : Option Jvm.ClassFile.FieldType), 4, [2, 2, 0, 0], 9),
  (⟨"HookBoxes$Roots", "inverse", "(I)I"⟩, prog_6_method_9_code, 1, (Option.some Jvm.ClassFile.FieldType.int), 4, [0], 0),
  (⟨"HookBoxes$Roots", "choose", "(I)V"⟩, prog_6_method_6_code, 4, (Option.none : Option Jvm.ClassFile.FieldType), 4, [2, 0], 9),
  (⟨"HookBoxes$Roots", "shareOf", "(II)I"⟩, prog_6_method_7_code, 8, (Option.some Jvm.ClassFile.FieldType.int), 4, [2, 0, 0], 0),
  (⟨"HookBoxes$Roots", "alternant", "([IIII)I"⟩, prog_6_method_8_code, 10, (Option.some Jvm.ClassFile.FieldType.int), 4, [2, 2, 0, 0, 0], 0),
  (⟨"HookBoxes$Multiplier", "<init>", "(LHookBoxes$Box;LHookBoxes$Products;)V"⟩, prog_3_method_1_code, 3, (Option.none : Option Jvm.ClassFile.FieldType), 5, [2, 2, 2], 9),
  (⟨"HookBoxes$Multiplier", "multiplied", "(LHookBoxes$Sum;LHookBoxes$Sum;)Z"⟩, prog_3_method_2_code, 6, (Option.some Jvm.ClassFile.FieldType.boolean), 5, [2, 2, 2], 3),
  (⟨"HookBoxes$Multiplier", "addShares", "(IIIJ)V"⟩, prog_3_method_3_code, 13, (Option.none : Option Jvm.ClassFile.FieldType), 5, [2, 0, 0, 0, 1], 9),
  (⟨"HookBoxes$Multiplier", "fits", "()Z"⟩, prog_3_method_4_code, 4, (Option.some Jvm.ClassFile.FieldType.boolean), 5, [2], 3),
  (⟨"HookBoxes$Reader", "<init>", "(LHookBoxes$Box;LHookBoxes$Multiplier;)V"⟩, prog_5_method_1_code, 4, (Option.none : Option Jvm.ClassFile.FieldType), 6, [2, 2, 2], 9),
  (⟨"HookBoxes$Reader", "append", "(I)V"⟩, prog_5_method_2_code, 2, (Option.none : Option Jvm.ClassFile.FieldType), 6, [2, 0], 9),
  (⟨"HookBoxes$Reader", "readTape", "()V"⟩, prog_5_method_3_code, 2, (Option.none : Option Jvm.ClassFile.FieldType), 6, [2], 9),
  (⟨"HookBoxes$Reader", "readSum", "(I)I"⟩, prog_5_method_4_code, 5, (Option.some Jvm.ClassFile.FieldType.int), 6, [2, 0], 0),
  (⟨"HookBoxes$Reader", "readProduct", "(I)I"⟩, prog_5_method_5_code, 4, (Option.some Jvm.ClassFile.FieldType.int), 6, [2, 0], 0),
  (⟨"HookBoxes$Reader", "readOne", "(I)I"⟩, prog_5_method_6_code, 3, (Option.some Jvm.ClassFile.FieldType.int), 6, [2, 0], 0)]
def hkMs2 : List (MethodName × ByteArray × Nat × Option FieldType × Nat × List Nat × Nat) := [(⟨"HookBoxes$Reader", "sees", "(I)Z"⟩, prog_5_method_10_code, 2, (Option.some Jvm.ClassFile.FieldType.boolean), 6, [2, 0], 3),
  (⟨"HookBoxes$Reader", "readInner", "(I)I"⟩, prog_5_method_7_code, 3, (Option.some Jvm.ClassFile.FieldType.int), 6, [2, 0], 0),
  (⟨"HookBoxes$Reader", "fail", "(I)V"⟩, prog_5_method_13_code, 2, (Option.none : Option Jvm.ClassFile.FieldType), 6, [2, 0], 9),
  (⟨"HookBoxes$Reader", "readShape", "(LHookBoxes$Sum;)V"⟩, prog_5_method_8_code, 6, (Option.none : Option Jvm.ClassFile.FieldType), 6, [2, 2], 9),
  (⟨"HookBoxes$Reader", "seesDigit", "()Z"⟩, prog_5_method_11_code, 1, (Option.some Jvm.ClassFile.FieldType.boolean), 6, [2], 3),
  (⟨"HookBoxes$Reader", "readNumber", "(LHookBoxes$Sum;)V"⟩, prog_5_method_9_code, 4, (Option.none : Option Jvm.ClassFile.FieldType), 6, [2, 2], 9),
  (⟨"HookBoxes$Reader", "goesOn", "()Z"⟩, prog_5_method_12_code, 1, (Option.some Jvm.ClassFile.FieldType.boolean), 6, [2], 3),
  (⟨"HookBoxes$Sum", "<init>", "()V"⟩, prog_9_method_1_code, 1, (Option.none : Option Jvm.ClassFile.FieldType), 7, [2], 9),
  (⟨"HookBoxes$Sum", "clear", "()V"⟩, prog_9_method_2_code, 1, (Option.none : Option Jvm.ClassFile.FieldType), 7, [2], 9),
  (⟨"HookBoxes$Sum", "filled", "()I"⟩, prog_9_method_4_code, 3, (Option.some Jvm.ClassFile.FieldType.int), 7, [2], 0),
  (⟨"HookBoxes$Sum", "become", "(LHookBoxes$Sum;)V"⟩, prog_9_method_3_code, 2, (Option.none : Option Jvm.ClassFile.FieldType), 7, [2, 2], 9),
  (⟨"HookBoxes$Sum", "added", "(LHookBoxes$Sum;I)Z"⟩, prog_9_method_5_code, 5, (Option.some Jvm.ClassFile.FieldType.boolean), 7, [2, 2, 0], 3),
  (⟨"HookBoxes$Walker", "<init>", "(LHookBoxes$Box;LHookBoxes$Products;)V"⟩, prog_10_method_1_code, 3, (Option.none : Option Jvm.ClassFile.FieldType), 8, [2, 2, 2], 9),
  (⟨"HookBoxes$Walker", "walk", "(II)V"⟩, prog_10_method_2_code, 7, (Option.none : Option Jvm.ClassFile.FieldType), 8, [2, 0, 0], 9),
  (⟨"HookBoxes$Sheet", "<init>", "()V"⟩, prog_8_method_1_code, 1, (Option.none : Option Jvm.ClassFile.FieldType), 9, [2], 9),
  (⟨"HookBoxes$Sheet", "isMissing", "()Z"⟩, prog_8_method_2_code, 1, (Option.some Jvm.ClassFile.FieldType.boolean), 9, [2], 3),
  (⟨"HookBoxes$Sheet", "tellsRows", "()Z"⟩, prog_8_method_7_code, 3, (Option.some Jvm.ClassFile.FieldType.boolean), 9, [2], 3),
  (⟨"HookBoxes$Sheet", "become", "(II)V"⟩, prog_8_method_3_code, 3, (Option.none : Option Jvm.ClassFile.FieldType), 9, [2, 0, 0], 9),
  (⟨"HookBoxes$Sheet", "set", "(II)V"⟩, prog_8_method_6_code, 3, (Option.none : Option Jvm.ClassFile.FieldType), 9, [2, 0, 0], 9),
  (⟨"HookBoxes$Sheet", "hasItem", "(I)Z"⟩, prog_8_method_4_code, 2, (Option.some Jvm.ClassFile.FieldType.boolean), 9, [2, 0], 3),
  (⟨"HookBoxes$Sheet", "hasStretch", "(II)Z"⟩, prog_8_method_5_code, 3, (Option.some Jvm.ClassFile.FieldType.boolean), 9, [2, 0, 0], 3),
  (⟨"HookBoxesModel", "<init>", "()V"⟩, prog_12_method_1_code, 2, (Option.none : Option Jvm.ClassFile.FieldType), 10, [2], 9),
  (⟨"HookBoxesModel", "shapesOf", "()V"⟩, prog_12_method_7_code, 4, (Option.none : Option Jvm.ClassFile.FieldType), 10, [2], 9),
  (⟨"HookBoxesModel", "width", "()I"⟩, prog_12_method_3_code, 1, (Option.some Jvm.ClassFile.FieldType.int), 10, [2], 0),
  (⟨"HookBoxesModel", "bits", "(I)I"⟩, prog_12_method_5_code, 3, (Option.some Jvm.ClassFile.FieldType.int), 10, [0], 0),
  (⟨"HookBoxesModel", "rowsBy", "(I)I"⟩, prog_12_method_6_code, 5, (Option.some Jvm.ClassFile.FieldType.int), 10, [2, 0], 0),
  (⟨"HookBoxesModel", "box", "(II)I"⟩, prog_12_method_10_code, 4, (Option.some Jvm.ClassFile.FieldType.int), 10, [2, 0, 0], 0),
  (⟨"HookBoxesModel", "isIn", "(JJJ)Z"⟩, prog_12_method_2_code, 6, (Option.some Jvm.ClassFile.FieldType.boolean), 10, [1, 1, 1], 3),
  (⟨"HookBoxesModel", "row", "(II)I"⟩, prog_12_method_11_code, 3, (Option.some Jvm.ClassFile.FieldType.int), 10, [2, 0, 0], 0),
  (⟨"HookBoxesModel", "isShape", "(I)Z"⟩, prog_12_method_9_code, 2, (Option.some Jvm.ClassFile.FieldType.boolean), 10, [2, 0], 3),
  (⟨"HookBoxesModel", "at", "(II)I"⟩, prog_12_method_4_code, 3, (Option.some Jvm.ClassFile.FieldType.int), 10, [2, 0, 0], 0),
  (⟨"HookBoxesModel", "number", "(I)I"⟩, prog_12_method_13_code, 5, (Option.some Jvm.ClassFile.FieldType.int), 10, [2, 0], 0),
  (⟨"HookBoxesModel", "shapeOf", "(I)I"⟩, prog_12_method_12_code, 6, (Option.some Jvm.ClassFile.FieldType.int), 10, [2, 0], 0),
  (⟨"HookBoxesModel", "of", "(II)I"⟩, prog_12_method_18_code, 4, (Option.some Jvm.ClassFile.FieldType.int), 10, [2, 0, 0], 0),
  (⟨"HookBoxesModel", "word", "(I)I"⟩, prog_12_method_8_code, 4, (Option.some Jvm.ClassFile.FieldType.int), 10, [2, 0], 0),
  (⟨"HookBoxesModel", "full", "(I)I"⟩, prog_12_method_14_code, 4, (Option.some Jvm.ClassFile.FieldType.int), 10, [2, 0], 0),
  (⟨"HookBoxesModel", "kind", "(I)I"⟩, prog_12_method_15_code, 3, (Option.some Jvm.ClassFile.FieldType.int), 10, [2, 0], 0),
  (⟨"HookBoxesModel", "dual", "(I)I"⟩, prog_12_method_16_code, 4, (Option.some Jvm.ClassFile.FieldType.int), 10, [2, 0], 0),
  (⟨"HookBoxesModel", "turnedWord", "(I)I"⟩, prog_12_method_17_code, 4, (Option.some Jvm.ClassFile.FieldType.int), 10, [2, 0], 0),
  (⟨"HookBoxesModel", "kinds", "(I)I"⟩, prog_12_method_19_code, 4, (Option.some Jvm.ClassFile.FieldType.int), 10, [2, 0], 0)]
def hkMs3 : List (MethodName × ByteArray × Nat × Option FieldType × Nat × List Nat × Nat) := [(⟨"HookBoxesModel", "times", "(IIII)I"⟩, prog_12_method_26_code, 6, (Option.some Jvm.ClassFile.FieldType.int), 10, [2, 0, 0, 0, 0], 0),
  (⟨"HookBoxesModel", "oftenOf", "(III)I"⟩, prog_12_method_24_code, 5, (Option.some Jvm.ClassFile.FieldType.int), 10, [2, 0, 0, 0], 0),
  (⟨"HookBoxesModel", "orders", "(IIIII)V"⟩, prog_12_method_23_code, 8, (Option.none : Option Jvm.ClassFile.FieldType), 10, [2, 0, 0, 0, 0, 0], 9),
  (⟨"HookBoxesModel", "timesRow", "(I)V"⟩, prog_12_method_22_code, 3, (Option.none : Option Jvm.ClassFile.FieldType), 10, [2, 0], 9),
  (⟨"HookBoxesModel", "strips", "(IIII)V"⟩, prog_12_method_21_code, 7, (Option.none : Option Jvm.ClassFile.FieldType), 10, [2, 0, 0, 0, 0], 9),
  (⟨"HookBoxesModel", "takesRound", "([I)V"⟩, prog_12_method_20_code, 5, (Option.none : Option Jvm.ClassFile.FieldType), 10, [2, 2], 9),
  (⟨"HookBoxesModel", "turnsOf", "(III)I"⟩, prog_12_method_25_code, 4, (Option.some Jvm.ClassFile.FieldType.int), 10, [2, 0, 0, 0], 0),
  (⟨"HookBoxesModel", "turns", "(III)I"⟩, prog_12_method_27_code, 11, (Option.some Jvm.ClassFile.FieldType.int), 10, [2, 0, 0, 0], 0),
  (⟨"HookBoxesModel", "around", "(IIII)I"⟩, prog_12_method_28_code, 8, (Option.some Jvm.ClassFile.FieldType.int), 10, [2, 0, 0, 0, 0], 0),
  (⟨"HookBoxesModel", "hooks", "(II)I"⟩, prog_12_method_29_code, 5, (Option.some Jvm.ClassFile.FieldType.int), 10, [2, 0, 0], 0),
  (⟨"HookBoxesModel", "isSheet", "(I)Z"⟩, prog_12_method_64_code, 1, (Option.some Jvm.ClassFile.FieldType.boolean), 10, [0], 3),
  (⟨"HookBoxesModel", "roots", "(III)I"⟩, prog_12_method_36_code, 4, (Option.some Jvm.ClassFile.FieldType.int), 10, [2, 0, 0, 0], 0),
  (⟨"HookBoxesModel", "byRoots", "(I)I"⟩, prog_12_method_35_code, 9, (Option.some Jvm.ClassFile.FieldType.int), 10, [2, 0], 0),
  (⟨"HookBoxesModel", "rootsNow", "()V"⟩, prog_12_method_33_code, 3, (Option.none : Option Jvm.ClassFile.FieldType), 10, [2], 9),
  (⟨"HookBoxesModel", "power", "(II)I"⟩, prog_12_method_31_code, 4, (Option.some Jvm.ClassFile.FieldType.int), 10, [0, 0], 0),
  (⟨"HookBoxesModel", "alternant", "(IIIZ)I"⟩, prog_12_method_34_code, 9, (Option.some Jvm.ClassFile.FieldType.int), 10, [2, 0, 0, 0, 0], 0),
  (⟨"HookBoxesModel", "inverse", "(I)I"⟩, prog_12_method_32_code, 1, (Option.some Jvm.ClassFile.FieldType.int), 10, [0], 0),
  (⟨"HookBoxesModel", "mod", "(J)I"⟩, prog_12_method_30_code, 2, (Option.some Jvm.ClassFile.FieldType.int), 10, [1], 0),
  (⟨"HookBoxesModel", "rootsOf", "(II)I"⟩, prog_12_method_37_code, 4, (Option.some Jvm.ClassFile.FieldType.int), 10, [2, 0, 0], 0),
  (⟨"HookBoxesModel", "term", "(II)I"⟩, prog_12_method_39_code, 3, (Option.some Jvm.ClassFile.FieldType.int), 10, [2, 0, 0], 0),
  (⟨"HookBoxesModel", "isTerm", "(II)Z"⟩, prog_12_method_38_code, 3, (Option.some Jvm.ClassFile.FieldType.boolean), 10, [2, 0, 0], 3),
  (⟨"HookBoxesModel", "scaled", "(III)J"⟩, prog_12_method_40_code, 6, (Option.some Jvm.ClassFile.FieldType.long), 10, [2, 0, 0, 0], 1),
  (⟨"HookBoxesModel", "multiply", "(I)I"⟩, prog_12_method_47_code, 3, (Option.some Jvm.ClassFile.FieldType.int), 10, [2, 0], 0),
  (⟨"HookBoxesModel", "becomes", "(IIII)V"⟩, prog_12_method_45_code, 6, (Option.none : Option Jvm.ClassFile.FieldType), 10, [2, 0, 0, 0, 0], 9),
  (⟨"HookBoxesModel", "multiplies", "(II)V"⟩, prog_12_method_43_code, 9, (Option.none : Option Jvm.ClassFile.FieldType), 10, [2, 0, 0], 9),
  (⟨"HookBoxesModel", "lays", "(I)V"⟩, prog_12_method_41_code, 3, (Option.none : Option Jvm.ClassFile.FieldType), 10, [2, 0], 9),
  (⟨"HookBoxesModel", "ends", "()I"⟩, prog_12_method_46_code, 2, (Option.some Jvm.ClassFile.FieldType.int), 10, [2], 0),
  (⟨"HookBoxesModel", "there", "()I"⟩, prog_12_method_44_code, 3, (Option.some Jvm.ClassFile.FieldType.int), 10, [2], 0),
  (⟨"HookBoxesModel", "feed", "(IIIIII)I"⟩, prog_12_method_48_code, 9, (Option.some Jvm.ClassFile.FieldType.int), 10, [2, 0, 0, 0, 0, 0, 0], 0),
  (⟨"HookBoxesModel", "read", "()I"⟩, prog_12_method_57_code, 2, (Option.some Jvm.ClassFile.FieldType.int), 10, [2], 0),
  (⟨"HookBoxesModel", "goes", "(Z)I"⟩, prog_12_method_56_code, 3, (Option.some Jvm.ClassFile.FieldType.int), 10, [2, 0], 0),
  (⟨"HookBoxesModel", "sumOf", "(IZ)I"⟩, prog_12_method_55_code, 6, (Option.some Jvm.ClassFile.FieldType.int), 10, [2, 0, 0], 0),
  (⟨"HookBoxesModel", "product", "(IZ)I"⟩, prog_12_method_54_code, 5, (Option.some Jvm.ClassFile.FieldType.int), 10, [2, 0, 0], 0),
  (⟨"HookBoxesModel", "one", "(IZ)I"⟩, prog_12_method_53_code, 6, (Option.some Jvm.ClassFile.FieldType.int), 10, [2, 0, 0], 0),
  (⟨"HookBoxesModel", "isDigit", "()Z"⟩, prog_12_method_50_code, 1, (Option.some Jvm.ClassFile.FieldType.boolean), 10, [2], 3),
  (⟨"HookBoxesModel", "here", "()I"⟩, prog_12_method_49_code, 1, (Option.some Jvm.ClassFile.FieldType.int), 10, [2], 0),
  (⟨"HookBoxesModel", "digits", "(I)I"⟩, prog_12_method_51_code, 3, (Option.some Jvm.ClassFile.FieldType.int), 10, [2, 0], 0),
  (⟨"HookBoxesModel", "numberOf", "(I)I"⟩, prog_12_method_52_code, 4, (Option.some Jvm.ClassFile.FieldType.int), 10, [2, 0], 0),
  (⟨"HookBoxesModel", "adds", "(III)V"⟩, prog_12_method_42_code, 5, (Option.none : Option Jvm.ClassFile.FieldType), 10, [2, 0, 0, 0], 9),
  (⟨"HookBoxesModel", "drawn", "(III)I"⟩, prog_12_method_59_code, 5, (Option.some Jvm.ClassFile.FieldType.int), 10, [2, 0, 0, 0], 0)]
def hkMs4 : List (MethodName × ByteArray × Nat × Option FieldType × Nat × List Nat × Nat) := [(⟨"HookBoxesModel", "walk", "(II)I"⟩, prog_12_method_58_code, 8, (Option.some Jvm.ClassFile.FieldType.int), 10, [2, 0, 0], 0),
  (⟨"HookBoxesModel", "chance", "(IIIII)I"⟩, prog_12_method_61_code, 9, (Option.some Jvm.ClassFile.FieldType.int), 10, [2, 0, 0, 0, 0, 0], 0),
  (⟨"HookBoxesModel", "common", "(II)I"⟩, prog_12_method_60_code, 2, (Option.some Jvm.ClassFile.FieldType.int), 10, [0, 0], 0),
  (⟨"HookBoxesModel", "tells", "(III)I"⟩, prog_12_method_62_code, 5, (Option.some Jvm.ClassFile.FieldType.int), 10, [2, 0, 0, 0], 0),
  (⟨"HookBoxesModel", "film", "(III)I"⟩, prog_12_method_63_code, 5, (Option.some Jvm.ClassFile.FieldType.int), 10, [2, 0, 0, 0], 0),
  (⟨"HookBoxesModel", "image", "()I"⟩, prog_12_method_65_code, 2, (Option.some Jvm.ClassFile.FieldType.int), 10, [2], 0),
  (⟨"HookBoxesModel", "back", "()I"⟩, prog_12_method_66_code, 2, (Option.some Jvm.ClassFile.FieldType.int), 10, [2], 0),
  (⟨"HookBoxesModel", "load", "(IIII)I"⟩, prog_12_method_67_code, 8, (Option.some Jvm.ClassFile.FieldType.int), 10, [2, 0, 0, 0, 0], 0),
  (⟨"HookBoxesModel", "count", "(I)I"⟩, prog_12_method_68_code, 2, (Option.some Jvm.ClassFile.FieldType.int), 10, [2, 0], 0),
  (⟨"HookBoxesModel", "sheet", "(III)I"⟩, prog_12_method_69_code, 5, (Option.some Jvm.ClassFile.FieldType.int), 10, [2, 0, 0, 0], 0),
  (⟨"HookBoxesModel", "put", "(III)I"⟩, prog_12_method_70_code, 4, (Option.some Jvm.ClassFile.FieldType.int), 10, [2, 0, 0, 0], 0),
  (⟨"HookBoxesModel", "copy", "(IIIII)I"⟩, prog_12_method_71_code, 7, (Option.some Jvm.ClassFile.FieldType.int), 10, [2, 0, 0, 0, 0, 0], 0),
  (⟨"java/lang/Integer", "compare", "(II)I"⟩, prog_13_method_40_code, 2, (Option.some Jvm.ClassFile.FieldType.int), 12, [0, 0], 0),
  (⟨"java/lang/Integer", "bitCount", "(I)I"⟩, prog_13_method_49_code, 1, (Option.some Jvm.ClassFile.FieldType.int), 12, [0], 0),
  (⟨"java/lang/Math", "min", "(II)I"⟩, prog_14_method_69_code, 2, (Option.some Jvm.ClassFile.FieldType.int), 13, [0, 0], 0),
  (⟨"java/lang/Math", "max", "(II)I"⟩, prog_14_method_65_code, 2, (Option.some Jvm.ClassFile.FieldType.int), 13, [0, 0], 0),
  (⟨"java/lang/Math", "floorMod", "(II)I"⟩, prog_14_method_50_code, 3, (Option.some Jvm.ClassFile.FieldType.int), 13, [0, 0], 0),
  (⟨"java/lang/Math", "abs", "(J)J"⟩, prog_14_method_61_code, 2, (Option.some Jvm.ClassFile.FieldType.long), 13, [1], 1),
  (⟨"java/lang/Math", "abs", "(I)I"⟩, prog_14_method_59_code, 1, (Option.some Jvm.ClassFile.FieldType.int), 13, [0], 0),
  (⟨"java/util/Arrays", "fill", "([II)V"⟩, prog_16_method_103_code, 4, (Option.none : Option Jvm.ClassFile.FieldType), 14, [2, 0], 9),
  (⟨"java/util/Arrays", "fill", "([IIII)V"⟩, prog_16_method_104_code, 5, (Option.none : Option Jvm.ClassFile.FieldType), 14, [2, 0, 0, 0], 9),
  (⟨"java/util/Arrays", "rangeCheck", "(III)V"⟩, prog_16_method_30_code, 3, (Option.none : Option Jvm.ClassFile.FieldType), 14, [0, 0, 0], 9),
  (⟨"java/util/Arrays", "fill", "([JJ)V"⟩, prog_16_method_101_code, 5, (Option.none : Option Jvm.ClassFile.FieldType), 14, [2, 1], 9),
  (⟨"java/lang/Object", "<init>", "()V"⟩, object_method_1_code, 1, (Option.none : Option Jvm.ClassFile.FieldType), 15, [2], 9),
  (⟨"HookBoxesLaw", "law", "([I)Z"⟩, code, 4, (Option.some Jvm.ClassFile.FieldType.boolean), 11, [2], 3)]
def hkMs : List (MethodName × ByteArray × Nat × Option FieldType × Nat × List Nat × Nat) := hkMs0 ++ (hkMs1 ++ (hkMs2 ++ (hkMs3 ++ (hkMs4))))
abbrev hkMT : Type := MethodName × ByteArray × Nat × Option FieldType × Nat × List Nat × Nat
def hkM (y : Nat) : hkMT := hkMs.getD y (⟨"", "", ""⟩, code, 0, none, 99, [], 9)
def hkN (y : Nat) : MethodName := (hkM y).1
def hkB (y : Nat) : ByteArray := (hkM y).2.1
def hkX (y : Nat) : Nat := (hkM y).2.2.1
def hkR (y : Nat) : Option FieldType := (hkM y).2.2.2.1
def hkOwn (y : Nat) : Nat := (hkM y).2.2.2.2.1
def hkTg (y : Nat) : List Nat := (hkM y).2.2.2.2.2.1
def hkRt (y : Nat) : Nat := (hkM y).2.2.2.2.2.2
/-- the number of methods; the law is the last -/
abbrev hkNM : Nat := 185
def hkCW (q : hkMT) : Cond := .code q.1 q.2.1 q.2.2.1 q.2.2.2.1
set_option maxRecDepth 100000 in
set_option maxHeartbeats 4000000 in
theorem hkCWs0 : [81, 438, 441, 445, 460, 468, 477, 510, 514, 551, 559, 563, 566, 579, 618, 622, 626, 631, 664, 667, 675, 741, 756, 759, 763, 767, 784, 788, 792, 799, 803, 807, 811, 89, 94, 101, 105, 109, 231, 464].map (fun i => lw_tbl[i]?) = (hkMs0).map (fun q => some (hkCW q)) := by rfl
set_option maxRecDepth 100000 in
set_option maxHeartbeats 4000000 in
theorem hkCWs1 : [472, 481, 485, 490, 494, 498, 502, 506, 181, 223, 208, 213, 219, 518, 522, 532, 543, 547, 647, 750, 257, 451, 583, 587, 590, 594, 597, 602, 606, 610, 283, 635, 643, 652, 300, 671, 679, 683, 687, 691].map (fun i => lw_tbl[i]?) = (hkMs1).map (fun q => some (hkCW q)) := by rfl
set_option maxRecDepth 100000 in
set_option maxHeartbeats 4000000 in
theorem hkCWs2 : [695, 699, 703, 708, 712, 717, 727, 307, 455, 660, 721, 732, 356, 745, 380, 570, 574, 771, 776, 780, 815, 821, 827, 831, 834, 838, 964, 968, 973, 977, 981, 985, 989, 993, 997, 1001, 1005, 1009, 1013, 1017].map (fun i => lw_tbl[i]?) = (hkMs2).map (fun q => some (hkCW q)) := by rfl
set_option maxRecDepth 100000 in
set_option maxHeartbeats 4000000 in
theorem hkCWs3 : [1022, 1026, 1030, 1034, 1038, 1043, 1047, 1051, 1057, 1061, 1064, 1070, 1074, 1078, 1081, 1085, 1088, 1092, 1096, 1100, 1104, 1108, 1113, 1117, 1121, 1125, 1131, 1135, 1139, 1144, 1148, 1152, 1156, 1160, 1164, 1168, 1174, 1178, 1182, 1186].map (fun i => lw_tbl[i]?) = (hkMs3).map (fun q => some (hkCW q)) := by rfl
set_option maxRecDepth 100000 in
set_option maxHeartbeats 4000000 in
theorem hkCWs4 : [1191, 1196, 1199, 1203, 1207, 1211, 1215, 1219, 1223, 1227, 1232, 1236, 227, 536, 115, 555, 614, 656, 735, 97, 525, 528, 638, 84].map (fun i => lw_tbl[i]?) = (hkMs4.take 24).map (fun q => some (hkCW q)) := by rfl
/-- links of methods: own, index, method, kind (0 virtual, 1 special, 2 static, 3 a nest mate's constructor), places of the words -/
def hkCT0 : List (Nat × Nat × Nat × List Nat) := [(1, 36, 34, [91, 92, 93, 63]), (1, 59, 35, [98, 100, 0, 63]), (1, 63, 36, [102, 104, 1, 63]), (1, 72, 37, [106, 107, 108, 63]), (3, 34, 51, [210, 211, 212, 68]), (3, 56, 52, [216, 218, 2, 68]), (3, 63, 49, [220, 221, 222, 67]), (2, 31, 37, [224, 107, 108, 63]), (2, 43, 38, [228, 229, 230, 63]), (11, 13, 1, [435, 436, 437, 62]), (0, 92, 3, [442, 444, 3, 62]), (0, 273, 34, [446, 92, 93, 63]), (0, 274, 51, [447, 211, 212, 68]), (0, 277, 61, [448, 449, 450, 70]), (0, 96, 88, [452, 453, 454, 73]), (11, 18, 4, [457, 458, 459, 62]), (0, 103, 39, [461, 462, 463, 63]), (11, 22, 5, [465, 466, 467, 62]), (0, 114, 40, [469, 470, 471, 63]), (1, 81, 38, [473, 229, 230, 63]), (11, 27, 6, [474, 475, 476, 62]), (0, 121, 41, [478, 479, 480, 63]), (0, 124, 42, [482, 483, 484, 63]), (1, 85, 41, [486, 479, 480, 63]), (0, 130, 43, [487, 488, 489, 63]), (1, 88, 44, [491, 493, 4, 63]), (0, 133, 45, [495, 496, 497, 63]), (1, 91, 46, [499, 501, 5, 63]), (0, 136, 47, [503, 504, 505, 63]), (11, 31, 7, [507, 508, 509, 62]), (11, 35, 8, [511, 512, 513, 62]), (0, 139, 53, [515, 516, 517, 68]), (3, 90, 54, [519, 520, 521, 68]), (3, 105, 55, [529, 531, 6, 68]), (3, 109, 41, [533, 479, 480, 63]), (3, 116, 56, [540, 542, 7, 68]), (0, 143, 57, [544, 545, 546, 68]), (11, 40, 9, [548, 549, 550, 62]), (11, 45, 10, [556, 557, 558, 62]), (11, 49, 11, [560, 561, 562, 62]), (0, 158, 95, [567, 568, 569, 75]), (0, 165, 96, [571, 572, 573, 75]), (0, 171, 49, [575, 221, 222, 67]), (11, 53, 13, [576, 577, 578, 62]), (0, 187, 62, [580, 581, 582, 70]), (4, 53, 63, [584, 586, 8, 70]), (4, 45, 65, [591, 593, 9, 70]), (4, 61, 67, [599, 601, 10, 70]), (4, 65, 68, [603, 605, 11, 70]), (4, 68, 69, [607, 609, 12, 70]), (4, 75, 37, [611, 107, 108, 63]), (11, 57, 14, [615, 616, 617, 62]), (11, 61, 15, [619, 620, 621, 62]), (11, 65, 16, [623, 624, 625, 62]), (11, 70, 17, [628, 629, 630, 62]), (0, 194, 71, [632, 633, 634, 71]), (5, 35, 54, [639, 520, 521, 68]), (5, 41, 72, [640, 642, 13, 71]), (5, 49, 58, [644, 645, 646, 68]), (5, 63, 57, [648, 545, 546, 68]), (5, 45, 73, [649, 651, 14, 71]), (0, 198, 89, [657, 658, 659, 73]), (11, 74, 18, [661, 662, 663, 62]), (0, 206, 75, [668, 669, 670, 72]), (11, 79, 20, [672, 673, 674, 62]), (0, 210, 76, [676, 677, 678, 72]), (6, 47, 77, [680, 682, 15, 72]), (6, 58, 78, [684, 686, 16, 72]), (6, 77, 79, [688, 690, 17, 72]), (6, 65, 80, [692, 694, 18, 72]), (6, 92, 81, [696, 698, 19, 72]), (6, 51, 82, [700, 702, 20, 72]), (6, 95, 88, [704, 453, 454, 73]), (6, 101, 83, [705, 707, 21, 72]), (6, 107, 84, [709, 711, 22, 72]), (6, 110, 40, [713, 470, 471, 63]), (6, 104, 85, [714, 716, 23, 72]), (6, 61, 90, [718, 719, 720, 73]), (6, 69, 86, [724, 726, 24, 72]), (6, 86, 71, [728, 633, 634, 71]), (6, 73, 91, [729, 730, 731, 73]), (0, 224, 90, [737, 719, 720, 73]), (11, 84, 21, [738, 739, 740, 62]), (0, 228, 93, [742, 743, 744, 74]), (8, 32, 59, [747, 748, 749, 68]), (3, 93, 58, [751, 645, 646, 68]), (8, 38, 57, [752, 545, 546, 68]), (11, 88, 22, [753, 754, 755, 62]), (11, 93, 24, [760, 761, 762, 62]), (11, 97, 25, [764, 765, 766, 62]), (0, 238, 97, [768, 769, 770, 75]), (0, 240, 98, [773, 774, 775, 75]), (9, 28, 99, [777, 778, 779, 75]), (11, 101, 26, [781, 782, 783, 62]), (11, 105, 27, [785, 786, 787, 62]), (11, 109, 28, [789, 790, 791, 62]), (0, 255, 99, [793, 778, 779, 75]), (11, 113, 29, [796, 797, 798, 62]), (11, 117, 30, [800, 801, 802, 62]), (11, 121, 31, [804, 805, 806, 62]), (11, 125, 32, [808, 809, 810, 62]), (0, 263, 100, [812, 813, 814, 75]), (10, 94, 102, [824, 826, 25, 76]), (10, 100, 103, [828, 830, 26, 76]), (10, 108, 105, [835, 837, 27, 76]), (11, 17, 106, [961, 962, 963, 76]), (11, 21, 108, [970, 971, 972, 76]), (10, 123, 109, [974, 976, 28, 76]), (10, 111, 110, [978, 980, 29, 76]), (11, 26, 111, [982, 983, 984, 76]), (10, 127, 112, [986, 988, 30, 76]), (11, 30, 113, [990, 991, 992, 76]), (10, 133, 114, [994, 996, 31, 76]), (10, 130, 115, [998, 1000, 32, 76]), (10, 136, 116, [1002, 1004, 33, 76]), (10, 139, 117, [1006, 1008, 34, 76]), (10, 142, 118, [1010, 1012, 35, 76]), (11, 34, 119, [1014, 1015, 1016, 76]), (11, 39, 120, [1019, 1020, 1021, 76]), (10, 177, 121, [1023, 1025, 36, 76]), (10, 173, 122, [1027, 1029, 37, 76]), (10, 169, 123, [1031, 1033, 38, 76]), (10, 161, 124, [1035, 1037, 39, 76]), (10, 165, 125, [1040, 1042, 40, 76]), (10, 181, 126, [1044, 1046, 41, 76]), (11, 44, 127, [1048, 1049, 1050, 76]), (11, 48, 128, [1054, 1055, 1056, 76]), (11, 52, 129, [1058, 1059, 1060, 76]), (11, 56, 131, [1067, 1068, 1069, 76]), (10, 218, 132, [1071, 1073, 42, 76]), (10, 212, 133, [1075, 1077, 43, 76]), (10, 204, 135, [1082, 1084, 44, 76]), (11, 60, 138, [1093, 1094, 1095, 76]), (11, 64, 139, [1097, 1098, 1099, 76]), (10, 221, 140, [1101, 1103, 45, 76]), (11, 69, 141, [1105, 1106, 1107, 76]), (11, 73, 142, [1110, 1111, 1112, 76]), (10, 241, 143, [1114, 1116, 46, 76]), (10, 244, 144, [1118, 1120, 47, 76]), (10, 235, 145, [1122, 1124, 48, 76]), (10, 248, 146, [1128, 1130, 49, 76]), (10, 238, 147, [1132, 1134, 50, 76]), (11, 78, 148, [1136, 1137, 1138, 76]), (11, 83, 149, [1141, 1142, 1143, 76]), (10, 293, 150, [1145, 1147, 51, 76]), (10, 279, 151, [1149, 1151, 52, 76]), (10, 286, 152, [1153, 1155, 53, 76]), (10, 283, 153, [1157, 1159, 54, 76]), (10, 266, 154, [1161, 1163, 55, 76]), (10, 259, 155, [1165, 1167, 56, 76]), (10, 270, 156, [1171, 1173, 57, 76]), (10, 273, 157, [1175, 1177, 58, 76]), (10, 289, 158, [1179, 1181, 59, 76]), (11, 87, 159, [1183, 1184, 1185, 76]), (10, 306, 160, [1188, 1190, 60, 76]), (11, 92, 161, [1193, 1194, 1195, 76]), (11, 96, 163, [1200, 1201, 1202, 76]), (11, 100, 164, [1204, 1205, 1206, 76]), (11, 104, 165, [1208, 1209, 1210, 76]), (11, 108, 166, [1212, 1213, 1214, 76]), (11, 112, 167, [1216, 1217, 1218, 76]), (11, 116, 168, [1220, 1221, 1222, 76]), (11, 120, 169, [1224, 1225, 1226, 76]), (11, 124, 170, [1229, 1230, 1231, 76]), (11, 128, 171, [1233, 1234, 1235, 76])]
def hkCT1 : List (Nat × Nat × Nat × List Nat) := [(11, 9, 0, [79, 80, 62]), (0, 13, 33, [87, 88, 63]), (0, 20, 48, [179, 180, 67]), (0, 29, 50, [206, 207, 68]), (0, 38, 60, [255, 256, 70]), (0, 45, 70, [281, 282, 71]), (0, 54, 74, [298, 299, 72]), (0, 63, 92, [354, 355, 74]), (11, 12, 101, [819, 820, 76])]
def hkCT2 : List (Nat × Nat × Nat × List Nat) := [(1, 53, 179, [95, 96, 64]), (1, 66, 174, [113, 114, 66]), (3, 37, 179, [214, 96, 64]), (2, 38, 172, [225, 226, 69]), (3, 78, 174, [232, 114, 66]), (0, 88, 2, [439, 440, 62]), (7, 15, 179, [456, 96, 64]), (3, 102, 180, [523, 524, 64]), (14, 13, 181, [526, 527, 64]), (3, 113, 173, [534, 535, 69]), (0, 146, 174, [552, 114, 66]), (0, 152, 175, [553, 554, 66]), (0, 155, 12, [564, 565, 62]), (4, 41, 64, [588, 589, 70]), (4, 49, 66, [595, 596, 70]), (4, 56, 173, [598, 535, 69]), (4, 78, 176, [612, 613, 66]), (5, 23, 182, [636, 637, 64]), (5, 69, 177, [654, 655, 66]), (0, 202, 19, [665, 666, 62]), (6, 80, 175, [723, 554, 66]), (7, 27, 178, [733, 734, 66]), (0, 235, 23, [757, 758, 62]), (9, 22, 179, [772, 96, 64]), (10, 104, 104, [832, 833, 76]), (10, 115, 107, [966, 967, 76]), (10, 156, 174, [1039, 114, 66]), (10, 186, 175, [1053, 554, 66]), (10, 189, 130, [1062, 1063, 76]), (10, 198, 134, [1079, 1080, 76]), (10, 201, 136, [1086, 1087, 76]), (10, 208, 137, [1090, 1091, 76]), (10, 309, 162, [1197, 1198, 76])]
def hkCT3 : List (Nat × Nat × Nat × List Nat) := [(6, 32, 87, [305, 306, 73]), (0, 70, 87, [374, 306, 73]), (0, 87, 94, [378, 379, 75])]
def hkCT4 : List (Nat × Nat × Nat × List Nat) := [(0, 5, 183, [82, 83, 84]), (1, 3, 183, [90, 83, 84]), (2, 3, 183, [182, 83, 84]), (3, 5, 183, [209, 83, 84]), (4, 3, 183, [258, 83, 84]), (5, 3, 183, [284, 83, 84]), (6, 3, 183, [301, 83, 84]), (7, 3, 183, [308, 83, 84]), (8, 3, 183, [357, 83, 84]), (9, 3, 183, [381, 83, 84]), (10, 5, 183, [822, 83, 84])]
def hkCT5 : List (Nat × Nat × Nat × List Nat) := [(1, 75, 999, [110]), (7, 21, 999, [722]), (0, 267, 999, [816])]
def hkFL : List (Nat × Nat × Nat × Nat × Nat) := [(1, 40, 1, 0, 116), (2, 26, 1, 0, 117), (3, 53, 1, 0, 118), (4, 32, 1, 0, 119), (0, 107, 1, 0, 120), (1, 44, 1, 1, 121), (2, 35, 1, 1, 122), (4, 38, 1, 1, 123), (3, 87, 1, 1, 124), (0, 246, 1, 1, 125), (1, 47, 1, 2, 126), (3, 50, 1, 2, 127), (1, 50, 1, 3, 128), (3, 44, 1, 3, 129), (8, 27, 1, 3, 130), (0, 99, 1, 3, 131), (1, 9, 1, 4, 132), (3, 60, 1, 4, 133), (0, 110, 1, 4, 134), (4, 72, 1, 4, 135), (1, 15, 1, 5, 136), (3, 84, 1, 5, 137), (0, 118, 1, 5, 138), (1, 18, 1, 6, 139), (0, 127, 1, 6, 140), (1, 21, 1, 7, 141), (5, 60, 1, 7, 142), (3, 99, 1, 7, 143), (1, 24, 1, 8, 144), (5, 52, 1, 8, 145), (3, 96, 1, 8, 146), (1, 27, 1, 9, 147), (3, 72, 1, 9, 148), (1, 30, 1, 10, 149), (1, 33, 1, 11, 150), (2, 19, 2, 0, 183), (3, 75, 2, 0, 184), (0, 175, 2, 0, 185), (2, 23, 2, 1, 186), (0, 178, 2, 1, 187), (2, 47, 2, 2, 188), (3, 69, 2, 2, 189), (0, 181, 2, 2, 190), (2, 15, 2, 3, 191), (2, 9, 2, 4, 192), (3, 26, 3, 0, 233), (3, 30, 3, 1, 234), (3, 11, 3, 2, 235), (3, 17, 3, 3, 236), (5, 57, 3, 3, 237), (3, 20, 3, 4, 238), (3, 23, 3, 5, 239), (4, 9, 4, 0, 259), (0, 184, 4, 0, 260), (4, 28, 4, 1, 261), (4, 15, 4, 2, 262), (4, 18, 4, 3, 263), (4, 21, 4, 4, 264), (4, 24, 4, 5, 265), (5, 15, 5, 0, 285), (5, 19, 5, 1, 286), (5, 11, 5, 2, 287), (7, 9, 7, 0, 309), (5, 29, 7, 0, 310), (6, 98, 7, 0, 311), (0, 189, 7, 0, 312), (6, 33, 6, 0, 316), (0, 205, 6, 0, 317), (6, 55, 6, 1, 318), (0, 260, 6, 1, 319), (6, 40, 6, 2, 320), (0, 213, 6, 2, 321), (6, 43, 6, 3, 322), (0, 216, 6, 3, 323), (6, 11, 6, 4, 324), (0, 220, 6, 4, 325), (6, 17, 6, 5, 326), (6, 20, 6, 6, 327), (6, 37, 6, 7, 328), (6, 24, 6, 8, 329), (6, 28, 6, 9, 330), (8, 19, 8, 0, 358), (0, 231, 8, 0, 359), (8, 23, 8, 1, 360), (0, 234, 8, 1, 361), (8, 9, 8, 2, 362), (8, 15, 8, 3, 363), (9, 9, 9, 0, 382), (0, 252, 9, 0, 383), (9, 19, 9, 1, 384), (0, 162, 9, 1, 385), (9, 15, 9, 2, 386), (0, 168, 9, 2, 387), (0, 14, 0, 0, 395), (0, 23, 0, 1, 396), (0, 32, 0, 2, 397), (0, 39, 0, 3, 398), (0, 48, 0, 4, 399), (0, 57, 0, 5, 400), (0, 64, 0, 6, 401), (0, 71, 0, 7, 402), (0, 75, 0, 8, 403), (0, 78, 0, 9, 404), (0, 243, 0, 10, 405), (0, 249, 0, 11, 406), (0, 83, 0, 12, 407), (10, 11, 10, 0, 839), (10, 15, 10, 1, 840), (10, 97, 10, 2, 841), (10, 18, 10, 3, 842), (10, 22, 10, 4, 843), (10, 25, 10, 5, 844), (10, 29, 10, 6, 845), (10, 32, 10, 7, 846), (10, 36, 10, 8, 847), (10, 39, 10, 9, 848), (10, 312, 10, 10, 849), (10, 315, 10, 11, 850), (10, 297, 10, 12, 851), (10, 318, 10, 13, 852), (10, 42, 10, 14, 853), (10, 45, 10, 15, 854), (10, 147, 10, 16, 855), (10, 150, 10, 17, 856), (10, 153, 10, 18, 857), (10, 48, 10, 19, 858), (10, 51, 10, 20, 859), (10, 54, 10, 21, 860), (10, 57, 10, 22, 861), (10, 60, 10, 23, 862), (10, 63, 10, 24, 863), (10, 66, 10, 25, 864), (10, 215, 10, 26, 865), (10, 69, 10, 27, 866), (10, 72, 10, 28, 867), (10, 227, 10, 29, 868), (10, 76, 10, 30, 869), (10, 79, 10, 31, 870), (10, 253, 10, 32, 871), (10, 256, 10, 33, 872), (10, 276, 10, 34, 873), (10, 300, 10, 35, 874), (10, 82, 10, 36, 875), (10, 85, 10, 37, 876), (10, 88, 10, 38, 877), (10, 91, 10, 39, 878)]
def hkCN : List (Nat × Nat × Nat × Nat) := [(11, 7, 0, 77), (0, 11, 1, 85), (0, 18, 2, 177), (0, 27, 3, 204), (0, 36, 4, 253), (0, 43, 5, 279), (0, 52, 6, 296), (6, 9, 7, 302), (0, 61, 8, 352), (0, 68, 7, 373), (0, 81, 9, 375), (11, 10, 10, 817)]
def hkKI : List (Nat × Nat × Int × Nat) := [(3, 43, -2147483648, 215), (12, 265, 1431655765, 537), (12, 266, 858993459, 538), (12, 267, 252645135, 539), (7, 33, 1000000, 736), (8, 26, 1103515245, 746), (0, 258, -1000000, 794), (0, 259, 1000000, 795), (10, 28, 42875, 823), (10, 303, 1103515245, 1192)]
def hkKJ : List (Nat × Nat × Int × Nat) := [(0, 192, -9223372036854775808, 627), (5, 67, 1000000, 653), (10, 119, 4, 965), (10, 121, 7, 969), (10, 145, 5, 1018), (10, 184, 3, 1052), (10, 192, 2, 1065), (10, 194, 20, 1066), (10, 196, 2521, 1089), (10, 225, -9223372036854775808, 1109), (10, 231, -1000000, 1126), (10, 233, 1000000, 1127), (10, 251, 255, 1140), (10, 262, 48, 1169), (10, 264, 57, 1170), (10, 304, 40, 1187), (10, 321, -1, 1228)]
def hkPl : List (Nat × Nat) := [(0, 13), (1, 12), (100, 140), (100, 35), (100, 35), (100, 35), (100, 7), (100, 35), (100, 128), (100, 4), (2, 5), (100, 4), (3, 6), (100, 1225), (100, 6125), (100, 25), (100, 4), (4, 6), (100, 8), (100, 49), (100, 49), (100, 4), (5, 3), (101, 630), (6, 10), (103, 6), (103, 5), (100, 60), (7, 1), (100, 280), (7, 1), (100, 280), (7, 1), (100, 280), (7, 1), (100, 280), (7, 1), (100, 280), (7, 1), (100, 280), (7, 1), (100, 280), (7, 1), (100, 280), (7, 1), (100, 280), (7, 1), (100, 280), (7, 1), (100, 280), (8, 4), (7, 1), (100, 280), (7, 1), (100, 280), (7, 1), (100, 280), (104, 4), (9, 3), (100, 40), (9, 3), (100, 40), (9, 3), (100, 40), (9, 3), (100, 40), (10, 40), (100, 140), (100, 128), (100, 35), (100, 42875), (102, 1225), (100, 280), (100, 280), (100, 4), (100, 4), (100, 35), (100, 35), (100, 4), (100, 4), (100, 7), (100, 4), (100, 8), (100, 4480), (101, 840), (100, 60), (100, 5), (100, 4), (100, 4), (100, 160), (100, 40)]
/-- what the constructors do, in order: (0, p, 0, 0) place p is made; (1, p, k, v) item k of p becomes place v -/
def hkEV : List (Nat × Nat × Nat × Nat) := [(0, 0, 0, 0), (0, 1, 0, 0), (0, 2, 0, 0), (1, 1, 4, 2), (0, 3, 0, 0), (1, 1, 5, 3), (0, 4, 0, 0), (1, 1, 6, 4), (0, 5, 0, 0), (1, 1, 7, 5), (0, 6, 0, 0), (1, 1, 8, 6), (0, 7, 0, 0), (1, 1, 9, 7), (0, 8, 0, 0), (1, 1, 10, 8), (0, 9, 0, 0), (1, 1, 11, 9), (1, 0, 0, 1), (0, 10, 0, 0), (0, 11, 0, 0), (1, 10, 4, 11), (1, 10, 3, 1), (1, 0, 1, 10), (0, 12, 0, 0), (0, 13, 0, 0), (1, 12, 2, 13), (0, 14, 0, 0), (1, 12, 3, 14), (0, 15, 0, 0), (1, 12, 4, 15), (0, 16, 0, 0), (1, 12, 5, 16), (1, 12, 0, 1), (1, 12, 1, 10), (1, 0, 2, 12), (0, 17, 0, 0), (0, 18, 0, 0), (1, 17, 0, 18), (0, 19, 0, 0), (1, 17, 2, 19), (0, 20, 0, 0), (1, 17, 3, 20), (0, 21, 0, 0), (1, 17, 4, 21), (1, 17, 1, 1), (1, 0, 3, 17), (0, 22, 0, 0), (0, 23, 0, 0), (1, 22, 2, 23), (1, 22, 0, 1), (1, 22, 1, 12), (1, 0, 4, 22), (0, 24, 0, 0), (0, 25, 0, 0), (1, 24, 4, 25), (0, 26, 0, 0), (1, 24, 5, 26), (0, 27, 0, 0), (1, 24, 6, 27), (1, 24, 8, 1), (1, 24, 9, 22), (0, 28, 0, 0), (0, 29, 0, 0), (1, 28, 0, 29), (1, 25, 0, 28), (0, 30, 0, 0), (0, 31, 0, 0), (1, 30, 0, 31), (1, 25, 1, 30), (0, 32, 0, 0), (0, 33, 0, 0), (1, 32, 0, 33), (1, 25, 2, 32), (0, 34, 0, 0), (0, 35, 0, 0), (1, 34, 0, 35), (1, 25, 3, 34), (0, 36, 0, 0), (0, 37, 0, 0), (1, 36, 0, 37), (1, 25, 4, 36), (0, 38, 0, 0), (0, 39, 0, 0), (1, 38, 0, 39), (1, 25, 5, 38), (0, 40, 0, 0), (0, 41, 0, 0), (1, 40, 0, 41), (1, 26, 0, 40), (0, 42, 0, 0), (0, 43, 0, 0), (1, 42, 0, 43), (1, 26, 1, 42), (0, 44, 0, 0), (0, 45, 0, 0), (1, 44, 0, 45), (1, 26, 2, 44), (0, 46, 0, 0), (0, 47, 0, 0), (1, 46, 0, 47), (1, 26, 3, 46), (0, 48, 0, 0), (0, 49, 0, 0), (1, 48, 0, 49), (1, 26, 4, 48), (1, 0, 5, 24), (0, 50, 0, 0), (1, 50, 2, 1), (1, 50, 3, 12), (1, 0, 6, 50), (0, 51, 0, 0), (0, 52, 0, 0), (1, 51, 0, 52), (1, 0, 7, 51), (0, 53, 0, 0), (0, 54, 0, 0), (1, 53, 0, 54), (1, 0, 8, 53), (0, 55, 0, 0), (0, 56, 0, 0), (1, 55, 0, 56), (1, 0, 9, 55), (0, 57, 0, 0), (1, 0, 12, 57), (0, 58, 0, 0), (0, 59, 0, 0), (1, 58, 2, 59), (1, 57, 0, 58), (0, 60, 0, 0), (0, 61, 0, 0), (1, 60, 2, 61), (1, 57, 1, 60), (0, 62, 0, 0), (0, 63, 0, 0), (1, 62, 2, 63), (1, 57, 2, 62), (0, 64, 0, 0), (0, 65, 0, 0), (1, 64, 2, 65), (1, 57, 3, 64), (0, 66, 0, 0), (0, 67, 0, 0), (1, 66, 3, 67), (0, 68, 0, 0), (1, 66, 4, 68), (0, 69, 0, 0), (1, 66, 5, 69), (0, 70, 0, 0), (1, 66, 6, 70), (0, 71, 0, 0), (1, 66, 7, 71), (0, 72, 0, 0), (1, 66, 8, 72), (0, 73, 0, 0), (1, 66, 9, 73), (0, 74, 0, 0), (1, 66, 14, 74), (0, 75, 0, 0), (1, 66, 15, 75), (0, 76, 0, 0), (1, 66, 19, 76), (0, 77, 0, 0), (1, 66, 20, 77), (0, 78, 0, 0), (1, 66, 21, 78), (0, 79, 0, 0), (1, 66, 22, 79), (0, 80, 0, 0), (1, 66, 23, 80), (0, 81, 0, 0), (1, 66, 24, 81), (0, 82, 0, 0), (1, 66, 25, 82), (0, 83, 0, 0), (1, 66, 27, 83), (0, 84, 0, 0), (1, 66, 28, 84), (0, 85, 0, 0), (1, 66, 30, 85), (0, 86, 0, 0), (1, 66, 31, 86), (0, 87, 0, 0), (1, 66, 36, 87), (0, 88, 0, 0), (1, 66, 37, 88), (0, 89, 0, 0), (1, 66, 38, 89), (0, 90, 0, 0), (1, 66, 39, 90)]
abbrev hkT : Nat := 190
