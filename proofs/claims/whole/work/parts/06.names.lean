/-! NAMES: classes, fields (printed by wip/gen/mknames.py out of the Statement) -/
def RK0 : String := "TogetherOrders"
def FK0 : u_T := fun k => match k with
  | 0 => ("TogetherOrders", "items", "LTogetherOrders$Items;", true)
  | 1 => ("TogetherOrders", "boxes", "LTogetherOrders$Boxes;", true)
  | 2 => ("TogetherOrders", "ways", "LTogetherOrders$Ways;", true)
  | 3 => ("TogetherOrders", "glues", "LTogetherOrders$Glues;", true)
  | 4 => ("TogetherOrders", "bars", "LTogetherOrders$Bars;", true)
  | 5 => ("TogetherOrders", "plan", "LTogetherOrders$Plan;", true)
  | 6 => ("TogetherOrders", "sets", "LTogetherOrders$Sets;", true)
  | 7 => ("TogetherOrders", "moves", "LTogetherOrders$SmallMoves;", true)
  | _ => ("TogetherOrders", "ran", "Z", false)
def tyK0 : Nat → FieldType := fun k => match k with
  | 0 => .object "TogetherOrders$Items"
  | 1 => .object "TogetherOrders$Boxes"
  | 2 => .object "TogetherOrders$Ways"
  | 3 => .object "TogetherOrders$Glues"
  | 4 => .object "TogetherOrders$Bars"
  | 5 => .object "TogetherOrders$Plan"
  | 6 => .object "TogetherOrders$Sets"
  | 7 => .object "TogetherOrders$SmallMoves"
  | _ => .boolean
theorem nmK0 : ∀ a, a < 9 → ∀ b, b < 9 → a ≠ b → (FK0 a).2.1 ≠ (FK0 b).2.1 := by decide +kernel
theorem okK0 : ∀ k, k < 9 → parseFieldDescriptor (FK0 k).2.2.1 = some (tyK0 k) := by decide +kernel
theorem inK0 : ∀ w ∈ u_ws RK0 FK0 9, w ∈ wg := by
  intro w hw
  obtain ⟨k, hk, rfl⟩ := List.mem_map.mp hw
  have hk := List.mem_range.mp hk
  match k, hk with
  | 0, _ => exact wg_in 246 (by decide +kernel) (by decide +kernel)
  | 1, _ => exact wg_in 248 (by decide +kernel) (by decide +kernel)
  | 2, _ => exact wg_in 250 (by decide +kernel) (by decide +kernel)
  | 3, _ => exact wg_in 252 (by decide +kernel) (by decide +kernel)
  | 4, _ => exact wg_in 254 (by decide +kernel) (by decide +kernel)
  | 5, _ => exact wg_in 256 (by decide +kernel) (by decide +kernel)
  | 6, _ => exact wg_in 258 (by decide +kernel) (by decide +kernel)
  | 7, _ => exact wg_in 260 (by decide +kernel) (by decide +kernel)
  | 8, _ => exact wg_in 262 (by decide +kernel) (by decide +kernel)
  | k + 9, h => omega
def RK1 : String := "TogetherOrders$Items"
def FK1 : u_T := fun k => match k with
  | 0 => ("TogetherOrders$Items", "parts", "I", false)
  | _ => ("TogetherOrders$Items", "itemOf", "[I", true)
def tyK1 : Nat → FieldType := fun k => match k with
  | 0 => .int
  | _ => .array .int
theorem nmK1 : ∀ a, a < 2 → ∀ b, b < 2 → a ≠ b → (FK1 a).2.1 ≠ (FK1 b).2.1 := by decide +kernel
theorem okK1 : ∀ k, k < 2 → parseFieldDescriptor (FK1 k).2.2.1 = some (tyK1 k) := by decide +kernel
theorem inK1 : ∀ w ∈ u_ws RK1 FK1 2, w ∈ wg := by
  intro w hw
  obtain ⟨k, hk, rfl⟩ := List.mem_map.mp hw
  have hk := List.mem_range.mp hk
  match k, hk with
  | 0, _ => exact wg_in 40 (by decide +kernel) (by decide +kernel)
  | 1, _ => exact wg_in 42 (by decide +kernel) (by decide +kernel)
  | k + 2, h => omega
def RK2 : String := "TogetherOrders$Boxes"
def FK2 : u_T := fun k => match k with
  | 0 => ("TogetherOrders$Boxes", "count", "I", false)
  | 1 => ("TogetherOrders$Boxes", "partOf", "[I", true)
  | 2 => ("TogetherOrders$Boxes", "begin", "[[J", true)
  | _ => ("TogetherOrders$Boxes", "size", "[[J", true)
def tyK2 : Nat → FieldType := fun k => match k with
  | 0 => .int
  | 1 => .array .int
  | 2 => .array (.array .long)
  | _ => .array (.array .long)
theorem nmK2 : ∀ a, a < 4 → ∀ b, b < 4 → a ≠ b → (FK2 a).2.1 ≠ (FK2 b).2.1 := by decide +kernel
theorem okK2 : ∀ k, k < 4 → parseFieldDescriptor (FK2 k).2.2.1 = some (tyK2 k) := by decide +kernel
theorem inK2 : ∀ w ∈ u_ws RK2 FK2 4, w ∈ wg := by
  intro w hw
  obtain ⟨k, hk, rfl⟩ := List.mem_map.mp hw
  have hk := List.mem_range.mp hk
  match k, hk with
  | 0, _ => exact wg_in 63 (by decide +kernel) (by decide +kernel)
  | 1, _ => exact wg_in 65 (by decide +kernel) (by decide +kernel)
  | 2, _ => exact wg_in 67 (by decide +kernel) (by decide +kernel)
  | 3, _ => exact wg_in 69 (by decide +kernel) (by decide +kernel)
  | k + 4, h => omega
def RK3 : String := "TogetherOrders$Ways"
def FK3 : u_T := fun k => match k with
  | 0 => ("TogetherOrders$Ways", "count", "I", false)
  | _ => ("TogetherOrders$Ways", "speed", "[[J", true)
def tyK3 : Nat → FieldType := fun k => match k with
  | 0 => .int
  | _ => .array (.array .long)
theorem nmK3 : ∀ a, a < 2 → ∀ b, b < 2 → a ≠ b → (FK3 a).2.1 ≠ (FK3 b).2.1 := by decide +kernel
theorem okK3 : ∀ k, k < 2 → parseFieldDescriptor (FK3 k).2.2.1 = some (tyK3 k) := by decide +kernel
theorem inK3 : ∀ w ∈ u_ws RK3 FK3 2, w ∈ wg := by
  intro w hw
  obtain ⟨k, hk, rfl⟩ := List.mem_map.mp hw
  have hk := List.mem_range.mp hk
  match k, hk with
  | 0, _ => exact wg_in 87 (by decide +kernel) (by decide +kernel)
  | 1, _ => exact wg_in 89 (by decide +kernel) (by decide +kernel)
  | k + 2, h => omega
def RK4 : String := "TogetherOrders$Glues"
def FK4 : u_T := fun k => match k with
  | 0 => ("TogetherOrders$Glues", "count", "I", false)
  | 1 => ("TogetherOrders$Glues", "first", "[I", true)
  | 2 => ("TogetherOrders$Glues", "second", "[I", true)
  | _ => ("TogetherOrders$Glues", "minutes", "[I", true)
def tyK4 : Nat → FieldType := fun k => match k with
  | 0 => .int
  | 1 => .array .int
  | 2 => .array .int
  | _ => .array .int
theorem nmK4 : ∀ a, a < 4 → ∀ b, b < 4 → a ≠ b → (FK4 a).2.1 ≠ (FK4 b).2.1 := by decide +kernel
theorem okK4 : ∀ k, k < 4 → parseFieldDescriptor (FK4 k).2.2.1 = some (tyK4 k) := by decide +kernel
theorem inK4 : ∀ w ∈ u_ws RK4 FK4 4, w ∈ wg := by
  intro w hw
  obtain ⟨k, hk, rfl⟩ := List.mem_map.mp hw
  have hk := List.mem_range.mp hk
  match k, hk with
  | 0, _ => exact wg_in 106 (by decide +kernel) (by decide +kernel)
  | 1, _ => exact wg_in 108 (by decide +kernel) (by decide +kernel)
  | 2, _ => exact wg_in 110 (by decide +kernel) (by decide +kernel)
  | 3, _ => exact wg_in 112 (by decide +kernel) (by decide +kernel)
  | k + 4, h => omega
def RK5 : String := "TogetherOrders$Bars"
def FK5 : u_T := fun k => match k with
  | 0 => ("TogetherOrders$Bars", "items", "LTogetherOrders$Items;", true)
  | 1 => ("TogetherOrders$Bars", "boxes", "LTogetherOrders$Boxes;", true)
  | 2 => ("TogetherOrders$Bars", "ways", "LTogetherOrders$Ways;", true)
  | 3 => ("TogetherOrders$Bars", "shiftOfCell", "[I", true)
  | 4 => ("TogetherOrders$Bars", "shiftBy", "[[J", true)
  | 5 => ("TogetherOrders$Bars", "barring", "[[I", true)
  | _ => ("TogetherOrders$Bars", "filled", "I", false)
def tyK5 : Nat → FieldType := fun k => match k with
  | 0 => .object "TogetherOrders$Items"
  | 1 => .object "TogetherOrders$Boxes"
  | 2 => .object "TogetherOrders$Ways"
  | 3 => .array .int
  | 4 => .array (.array .long)
  | 5 => .array (.array .int)
  | _ => .int
theorem nmK5 : ∀ a, a < 7 → ∀ b, b < 7 → a ≠ b → (FK5 a).2.1 ≠ (FK5 b).2.1 := by decide +kernel
theorem okK5 : ∀ k, k < 7 → parseFieldDescriptor (FK5 k).2.2.1 = some (tyK5 k) := by decide +kernel
theorem inK5 : ∀ w ∈ u_ws RK5 FK5 7, w ∈ wg := by
  intro w hw
  obtain ⟨k, hk, rfl⟩ := List.mem_map.mp hw
  have hk := List.mem_range.mp hk
  match k, hk with
  | 0, _ => exact wg_in 134 (by decide +kernel) (by decide +kernel)
  | 1, _ => exact wg_in 136 (by decide +kernel) (by decide +kernel)
  | 2, _ => exact wg_in 138 (by decide +kernel) (by decide +kernel)
  | 3, _ => exact wg_in 140 (by decide +kernel) (by decide +kernel)
  | 4, _ => exact wg_in 142 (by decide +kernel) (by decide +kernel)
  | 5, _ => exact wg_in 144 (by decide +kernel) (by decide +kernel)
  | 6, _ => exact wg_in 146 (by decide +kernel) (by decide +kernel)
  | k + 7, h => omega
def RK6 : String := "TogetherOrders$Plan"
def FK6 : u_T := fun k => match k with
  | 0 => ("TogetherOrders$Plan", "items", "LTogetherOrders$Items;", true)
  | 1 => ("TogetherOrders$Plan", "bars", "LTogetherOrders$Bars;", true)
  | 2 => ("TogetherOrders$Plan", "taken", "[I", true)
  | 3 => ("TogetherOrders$Plan", "wayOf", "[I", true)
  | 4 => ("TogetherOrders$Plan", "orderOf", "[I", true)
  | 5 => ("TogetherOrders$Plan", "steps", "I", false)
  | _ => ("TogetherOrders$Plan", "stuck", "I", false)
def tyK6 : Nat → FieldType := fun k => match k with
  | 0 => .object "TogetherOrders$Items"
  | 1 => .object "TogetherOrders$Bars"
  | 2 => .array .int
  | 3 => .array .int
  | 4 => .array .int
  | 5 => .int
  | _ => .int
theorem nmK6 : ∀ a, a < 7 → ∀ b, b < 7 → a ≠ b → (FK6 a).2.1 ≠ (FK6 b).2.1 := by decide +kernel
theorem okK6 : ∀ k, k < 7 → parseFieldDescriptor (FK6 k).2.2.1 = some (tyK6 k) := by decide +kernel
theorem inK6 : ∀ w ∈ u_ws RK6 FK6 7, w ∈ wg := by
  intro w hw
  obtain ⟨k, hk, rfl⟩ := List.mem_map.mp hw
  have hk := List.mem_range.mp hk
  match k, hk with
  | 0, _ => exact wg_in 166 (by decide +kernel) (by decide +kernel)
  | 1, _ => exact wg_in 168 (by decide +kernel) (by decide +kernel)
  | 2, _ => exact wg_in 170 (by decide +kernel) (by decide +kernel)
  | 3, _ => exact wg_in 172 (by decide +kernel) (by decide +kernel)
  | 4, _ => exact wg_in 174 (by decide +kernel) (by decide +kernel)
  | 5, _ => exact wg_in 176 (by decide +kernel) (by decide +kernel)
  | 6, _ => exact wg_in 178 (by decide +kernel) (by decide +kernel)
  | k + 7, h => omega
def RK7 : String := "TogetherOrders$Sets"
def FK7 : u_T := fun k => match k with
  | 0 => ("TogetherOrders$Sets", "items", "LTogetherOrders$Items;", true)
  | 1 => ("TogetherOrders$Sets", "ways", "LTogetherOrders$Ways;", true)
  | 2 => ("TogetherOrders$Sets", "bars", "LTogetherOrders$Bars;", true)
  | 3 => ("TogetherOrders$Sets", "reached", "[J", true)
  | 4 => ("TogetherOrders$Sets", "before", "[I", true)
  | 5 => ("TogetherOrders$Sets", "knowsBefore", "Z", false)
  | 6 => ("TogetherOrders$Sets", "knowsTurnings", "Z", false)
  | _ => ("TogetherOrders$Sets", "turns", "I", false)
def tyK7 : Nat → FieldType := fun k => match k with
  | 0 => .object "TogetherOrders$Items"
  | 1 => .object "TogetherOrders$Ways"
  | 2 => .object "TogetherOrders$Bars"
  | 3 => .array .long
  | 4 => .array .int
  | 5 => .boolean
  | 6 => .boolean
  | _ => .int
theorem nmK7 : ∀ a, a < 8 → ∀ b, b < 8 → a ≠ b → (FK7 a).2.1 ≠ (FK7 b).2.1 := by decide +kernel
theorem okK7 : ∀ k, k < 8 → parseFieldDescriptor (FK7 k).2.2.1 = some (tyK7 k) := by decide +kernel
theorem inK7 : ∀ w ∈ u_ws RK7 FK7 8, w ∈ wg := by
  intro w hw
  obtain ⟨k, hk, rfl⟩ := List.mem_map.mp hw
  have hk := List.mem_range.mp hk
  match k, hk with
  | 0, _ => exact wg_in 195 (by decide +kernel) (by decide +kernel)
  | 1, _ => exact wg_in 197 (by decide +kernel) (by decide +kernel)
  | 2, _ => exact wg_in 199 (by decide +kernel) (by decide +kernel)
  | 3, _ => exact wg_in 201 (by decide +kernel) (by decide +kernel)
  | 4, _ => exact wg_in 203 (by decide +kernel) (by decide +kernel)
  | 5, _ => exact wg_in 205 (by decide +kernel) (by decide +kernel)
  | 6, _ => exact wg_in 207 (by decide +kernel) (by decide +kernel)
  | 7, _ => exact wg_in 209 (by decide +kernel) (by decide +kernel)
  | k + 8, h => omega
def RK8 : String := "TogetherOrders$SmallMoves"
def FK8 : u_T := fun k => match k with
  | 0 => ("TogetherOrders$SmallMoves", "items", "LTogetherOrders$Items;", true)
  | 1 => ("TogetherOrders$SmallMoves", "ways", "LTogetherOrders$Ways;", true)
  | 2 => ("TogetherOrders$SmallMoves", "bars", "LTogetherOrders$Bars;", true)
  | 3 => ("TogetherOrders$SmallMoves", "moved", "[I", true)
  | 4 => ("TogetherOrders$SmallMoves", "searched", "I", false)
  | _ => ("TogetherOrders$SmallMoves", "found", "I", false)
def tyK8 : Nat → FieldType := fun k => match k with
  | 0 => .object "TogetherOrders$Items"
  | 1 => .object "TogetherOrders$Ways"
  | 2 => .object "TogetherOrders$Bars"
  | 3 => .array .int
  | 4 => .int
  | _ => .int
theorem nmK8 : ∀ a, a < 6 → ∀ b, b < 6 → a ≠ b → (FK8 a).2.1 ≠ (FK8 b).2.1 := by decide +kernel
theorem okK8 : ∀ k, k < 6 → parseFieldDescriptor (FK8 k).2.2.1 = some (tyK8 k) := by decide +kernel
theorem inK8 : ∀ w ∈ u_ws RK8 FK8 6, w ∈ wg := by
  intro w hw
  obtain ⟨k, hk, rfl⟩ := List.mem_map.mp hw
  have hk := List.mem_range.mp hk
  match k, hk with
  | 0, _ => exact wg_in 224 (by decide +kernel) (by decide +kernel)
  | 1, _ => exact wg_in 226 (by decide +kernel) (by decide +kernel)
  | 2, _ => exact wg_in 228 (by decide +kernel) (by decide +kernel)
  | 3, _ => exact wg_in 230 (by decide +kernel) (by decide +kernel)
  | 4, _ => exact wg_in 232 (by decide +kernel) (by decide +kernel)
  | 5, _ => exact wg_in 234 (by decide +kernel) (by decide +kernel)
  | k + 6, h => omega
def RK9 : String := "TogetherOrdersModel"
def FK9 : u_T := fun k => match k with
  | 0 => ("TogetherOrdersModel", "code", "I", false)
  | 1 => ("TogetherOrdersModel", "parts", "I", false)
  | 2 => ("TogetherOrdersModel", "boxes", "I", false)
  | 3 => ("TogetherOrdersModel", "owners", "[I", true)
  | 4 => ("TogetherOrdersModel", "numbers", "[J", true)
  | 5 => ("TogetherOrdersModel", "slants", "I", false)
  | 6 => ("TogetherOrdersModel", "ways", "[J", true)
  | 7 => ("TogetherOrdersModel", "groups", "[I", true)
  | 8 => ("TogetherOrdersModel", "glues", "I", false)
  | 9 => ("TogetherOrdersModel", "glueA", "[I", true)
  | 10 => ("TogetherOrdersModel", "glueB", "[I", true)
  | 11 => ("TogetherOrdersModel", "glueFor", "[I", true)
  | 12 => ("TogetherOrdersModel", "moved", "[J", true)
  | 13 => ("TogetherOrdersModel", "bars", "[I", true)
  | 14 => ("TogetherOrdersModel", "ran", "Z", false)
  | 15 => ("TogetherOrdersModel", "gone", "I", false)
  | 16 => ("TogetherOrdersModel", "order", "[I", true)
  | 17 => ("TogetherOrdersModel", "by", "[I", true)
  | 18 => ("TogetherOrdersModel", "left", "I", false)
  | 19 => ("TogetherOrdersModel", "least", "[I", true)
  | _ => ("TogetherOrdersModel", "reached", "[Z", true)
def tyK9 : Nat → FieldType := fun k => match k with
  | 0 => .int
  | 1 => .int
  | 2 => .int
  | 3 => .array .int
  | 4 => .array .long
  | 5 => .int
  | 6 => .array .long
  | 7 => .array .int
  | 8 => .int
  | 9 => .array .int
  | 10 => .array .int
  | 11 => .array .int
  | 12 => .array .long
  | 13 => .array .int
  | 14 => .boolean
  | 15 => .int
  | 16 => .array .int
  | 17 => .array .int
  | 18 => .int
  | 19 => .array .int
  | _ => .array .boolean
theorem nmK9 : ∀ a, a < 21 → ∀ b, b < 21 → a ≠ b → (FK9 a).2.1 ≠ (FK9 b).2.1 := by decide +kernel
theorem okK9 : ∀ k, k < 21 → parseFieldDescriptor (FK9 k).2.2.1 = some (tyK9 k) := by decide +kernel
theorem inK9 : ∀ w ∈ u_ws RK9 FK9 21, w ∈ wg := by
  intro w hw
  obtain ⟨k, hk, rfl⟩ := List.mem_map.mp hw
  have hk := List.mem_range.mp hk
  match k, hk with
  | 0, _ => exact wg_in 798 (by decide +kernel) (by decide +kernel)
  | 1, _ => exact wg_in 800 (by decide +kernel) (by decide +kernel)
  | 2, _ => exact wg_in 802 (by decide +kernel) (by decide +kernel)
  | 3, _ => exact wg_in 804 (by decide +kernel) (by decide +kernel)
  | 4, _ => exact wg_in 806 (by decide +kernel) (by decide +kernel)
  | 5, _ => exact wg_in 808 (by decide +kernel) (by decide +kernel)
  | 6, _ => exact wg_in 810 (by decide +kernel) (by decide +kernel)
  | 7, _ => exact wg_in 812 (by decide +kernel) (by decide +kernel)
  | 8, _ => exact wg_in 814 (by decide +kernel) (by decide +kernel)
  | 9, _ => exact wg_in 816 (by decide +kernel) (by decide +kernel)
  | 10, _ => exact wg_in 818 (by decide +kernel) (by decide +kernel)
  | 11, _ => exact wg_in 820 (by decide +kernel) (by decide +kernel)
  | 12, _ => exact wg_in 822 (by decide +kernel) (by decide +kernel)
  | 13, _ => exact wg_in 824 (by decide +kernel) (by decide +kernel)
  | 14, _ => exact wg_in 826 (by decide +kernel) (by decide +kernel)
  | 15, _ => exact wg_in 828 (by decide +kernel) (by decide +kernel)
  | 16, _ => exact wg_in 830 (by decide +kernel) (by decide +kernel)
  | 17, _ => exact wg_in 832 (by decide +kernel) (by decide +kernel)
  | 18, _ => exact wg_in 834 (by decide +kernel) (by decide +kernel)
  | 19, _ => exact wg_in 836 (by decide +kernel) (by decide +kernel)
  | 20, _ => exact wg_in 838 (by decide +kernel) (by decide +kernel)
  | k + 21, h => omega
abbrev cls : List vw_C := [(RK0, FK0, 9), (RK1, FK1, 2), (RK2, FK2, 4), (RK3, FK3, 2), (RK4, FK4, 4), (RK5, FK5, 7), (RK6, FK6, 7), (RK7, FK7, 8), (RK8, FK8, 6), (RK9, FK9, 21)]
theorem cls_ok : ClsOk cls wg := by
  intro ci C T N h
  match ci, h with
  | 0, h => cases h; exact ⟨inK0, ⟨tyK0, okK0⟩, nmK0⟩
  | 1, h => cases h; exact ⟨inK1, ⟨tyK1, okK1⟩, nmK1⟩
  | 2, h => cases h; exact ⟨inK2, ⟨tyK2, okK2⟩, nmK2⟩
  | 3, h => cases h; exact ⟨inK3, ⟨tyK3, okK3⟩, nmK3⟩
  | 4, h => cases h; exact ⟨inK4, ⟨tyK4, okK4⟩, nmK4⟩
  | 5, h => cases h; exact ⟨inK5, ⟨tyK5, okK5⟩, nmK5⟩
  | 6, h => cases h; exact ⟨inK6, ⟨tyK6, okK6⟩, nmK6⟩
  | 7, h => cases h; exact ⟨inK7, ⟨tyK7, okK7⟩, nmK7⟩
  | 8, h => cases h; exact ⟨inK8, ⟨tyK8, okK8⟩, nmK8⟩
  | 9, h => cases h; exact ⟨inK9, ⟨tyK9, okK9⟩, nmK9⟩
  | k + 10, h => simp [cls] at h
