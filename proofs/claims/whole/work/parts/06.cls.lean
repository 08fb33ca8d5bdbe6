/-! ===== classes: names, fields, the words that lay them ===== -/
theorem q_in {w : Cond} (i : Nat) (h : lw_tbl[i]? = some w) (hg : goodWord w = true) : w ∈ q_TW := List.mem_filter.mpr ⟨List.mem_of_getElem? h, hg⟩
def RX0 : String := "WhirlShafts$Changes"
def TX0 : u_T := fun k => match k with
  | 0 => ("WhirlShafts$Changes", "what", "[I", true)
  | 1 => ("WhirlShafts$Changes", "number", "[I", true)
  | 2 => ("WhirlShafts$Changes", "was", "[I", true)
  | 3 => ("WhirlShafts$Changes", "became", "[I", true)
  | 4 => ("WhirlShafts$Changes", "done", "I", false)
  | _ => ("WhirlShafts$Changes", "undone", "I", false)
def tyX0 : Nat → FieldType := fun k => match k with
  | 0 => .array .int
  | 1 => .array .int
  | 2 => .array .int
  | 3 => .array .int
  | 4 => .int
  | _ => .int
theorem nmX0 : ∀ a, a < 6 → ∀ b, b < 6 → a ≠ b → (TX0 a).2.1 ≠ (TX0 b).2.1 := by decide +kernel
theorem tyX0_ok : ∀ k, k < 6 → parseFieldDescriptor (TX0 k).2.2.1 = some (tyX0 k) := by decide +kernel
theorem inX0_0 : u_lay RX0 TX0 0 ∈ q_TW := q_in 215 (by decide +kernel) (by decide +kernel)
theorem inX0_1 : u_lay RX0 TX0 1 ∈ q_TW := q_in 217 (by decide +kernel) (by decide +kernel)
theorem inX0_2 : u_lay RX0 TX0 2 ∈ q_TW := q_in 219 (by decide +kernel) (by decide +kernel)
theorem inX0_3 : u_lay RX0 TX0 3 ∈ q_TW := q_in 221 (by decide +kernel) (by decide +kernel)
theorem inX0_4 : u_lay RX0 TX0 4 ∈ q_TW := q_in 223 (by decide +kernel) (by decide +kernel)
theorem inX0_5 : u_lay RX0 TX0 5 ∈ q_TW := q_in 225 (by decide +kernel) (by decide +kernel)
theorem inX0 : ∀ w ∈ u_ws RX0 TX0 6, w ∈ q_TW := by
  intro w hw
  obtain ⟨k, hk, rfl⟩ := List.mem_map.mp hw
  have hk : k < 6 := List.mem_range.mp hk
  rcases (show k = 0 ∨ k = 1 ∨ k = 2 ∨ k = 3 ∨ k = 4 ∨ k = 5 by omega) with rfl | rfl | rfl | rfl | rfl | rfl
  · exact inX0_0
  · exact inX0_1
  · exact inX0_2
  · exact inX0_3
  · exact inX0_4
  · exact inX0_5
def RX1 : String := "WhirlShafts$Crown"
def TX1 : u_T := fun k => match k with
  | 0 => ("WhirlShafts$Disc", "bodies", "[I", true)
  | 1 => ("WhirlShafts$Disc", "ran", "I", false)
  | 2 => ("WhirlShafts$Disc", "number", "I", false)
  | _ => ("WhirlShafts$Disc", "mass", "I", false)
def tyX1 : Nat → FieldType := fun k => match k with
  | 0 => .array .int
  | 1 => .int
  | 2 => .int
  | _ => .int
theorem nmX1 : ∀ a, a < 4 → ∀ b, b < 4 → a ≠ b → (TX1 a).2.1 ≠ (TX1 b).2.1 := by decide +kernel
theorem tyX1_ok : ∀ k, k < 4 → parseFieldDescriptor (TX1 k).2.2.1 = some (tyX1 k) := by decide +kernel
theorem inX1_0 : u_lay RX1 TX1 0 ∈ q_TW := q_in 121 (by decide +kernel) (by decide +kernel)
theorem inX1_1 : u_lay RX1 TX1 1 ∈ q_TW := q_in 122 (by decide +kernel) (by decide +kernel)
theorem inX1_2 : u_lay RX1 TX1 2 ∈ q_TW := q_in 123 (by decide +kernel) (by decide +kernel)
theorem inX1_3 : u_lay RX1 TX1 3 ∈ q_TW := q_in 124 (by decide +kernel) (by decide +kernel)
theorem inX1 : ∀ w ∈ u_ws RX1 TX1 4, w ∈ q_TW := by
  intro w hw
  obtain ⟨k, hk, rfl⟩ := List.mem_map.mp hw
  have hk : k < 4 := List.mem_range.mp hk
  rcases (show k = 0 ∨ k = 1 ∨ k = 2 ∨ k = 3 by omega) with rfl | rfl | rfl | rfl
  · exact inX1_0
  · exact inX1_1
  · exact inX1_2
  · exact inX1_3
def RX2 : String := "WhirlShafts$Disc"
def TX2 : u_T := fun k => match k with
  | 0 => ("WhirlShafts$Disc", "bodies", "[I", true)
  | 1 => ("WhirlShafts$Disc", "ran", "I", false)
  | 2 => ("WhirlShafts$Disc", "number", "I", false)
  | _ => ("WhirlShafts$Disc", "mass", "I", false)
def tyX2 : Nat → FieldType := fun k => match k with
  | 0 => .array .int
  | 1 => .int
  | 2 => .int
  | _ => .int
theorem nmX2 : ∀ a, a < 4 → ∀ b, b < 4 → a ≠ b → (TX2 a).2.1 ≠ (TX2 b).2.1 := by decide +kernel
theorem tyX2_ok : ∀ k, k < 4 → parseFieldDescriptor (TX2 k).2.2.1 = some (tyX2 k) := by decide +kernel
theorem inX2_0 : u_lay RX2 TX2 0 ∈ q_TW := q_in 83 (by decide +kernel) (by decide +kernel)
theorem inX2_1 : u_lay RX2 TX2 1 ∈ q_TW := q_in 85 (by decide +kernel) (by decide +kernel)
theorem inX2_2 : u_lay RX2 TX2 2 ∈ q_TW := q_in 87 (by decide +kernel) (by decide +kernel)
theorem inX2_3 : u_lay RX2 TX2 3 ∈ q_TW := q_in 89 (by decide +kernel) (by decide +kernel)
theorem inX2 : ∀ w ∈ u_ws RX2 TX2 4, w ∈ q_TW := by
  intro w hw
  obtain ⟨k, hk, rfl⟩ := List.mem_map.mp hw
  have hk : k < 4 := List.mem_range.mp hk
  rcases (show k = 0 ∨ k = 1 ∨ k = 2 ∨ k = 3 by omega) with rfl | rfl | rfl | rfl
  · exact inX2_0
  · exact inX2_1
  · exact inX2_2
  · exact inX2_3
def RX3 : String := "WhirlShafts$Hub"
def TX3 : u_T := fun k => match k with
  | 0 => ("WhirlShafts$Disc", "bodies", "[I", true)
  | 1 => ("WhirlShafts$Disc", "ran", "I", false)
  | 2 => ("WhirlShafts$Disc", "number", "I", false)
  | _ => ("WhirlShafts$Disc", "mass", "I", false)
def tyX3 : Nat → FieldType := fun k => match k with
  | 0 => .array .int
  | 1 => .int
  | 2 => .int
  | _ => .int
theorem nmX3 : ∀ a, a < 4 → ∀ b, b < 4 → a ≠ b → (TX3 a).2.1 ≠ (TX3 b).2.1 := by decide +kernel
theorem tyX3_ok : ∀ k, k < 4 → parseFieldDescriptor (TX3 k).2.2.1 = some (tyX3 k) := by decide +kernel
theorem inX3_0 : u_lay RX3 TX3 0 ∈ q_TW := q_in 110 (by decide +kernel) (by decide +kernel)
theorem inX3_1 : u_lay RX3 TX3 1 ∈ q_TW := q_in 111 (by decide +kernel) (by decide +kernel)
theorem inX3_2 : u_lay RX3 TX3 2 ∈ q_TW := q_in 112 (by decide +kernel) (by decide +kernel)
theorem inX3_3 : u_lay RX3 TX3 3 ∈ q_TW := q_in 113 (by decide +kernel) (by decide +kernel)
theorem inX3 : ∀ w ∈ u_ws RX3 TX3 4, w ∈ q_TW := by
  intro w hw
  obtain ⟨k, hk, rfl⟩ := List.mem_map.mp hw
  have hk : k < 4 := List.mem_range.mp hk
  rcases (show k = 0 ∨ k = 1 ∨ k = 2 ∨ k = 3 by omega) with rfl | rfl | rfl | rfl
  · exact inX3_0
  · exact inX3_1
  · exact inX3_2
  · exact inX3_3
def RX4 : String := "WhirlShafts$Line"
def TX4 : u_T := fun k => match k with
  | 0 => ("WhirlShafts$Line", "kinds", "[LWhirlShafts$Disc;", true)
  | 1 => ("WhirlShafts$Line", "kind", "[I", true)
  | 2 => ("WhirlShafts$Line", "mass", "[I", true)
  | 3 => ("WhirlShafts$Line", "bearing", "[I", true)
  | 4 => ("WhirlShafts$Line", "stiff", "[I", true)
  | 5 => ("WhirlShafts$Line", "ratio", "[I", true)
  | 6 => ("WhirlShafts$Line", "discs", "I", false)
  | 7 => ("WhirlShafts$Line", "spin", "I", false)
  | _ => ("WhirlShafts$Line", "way", "I", false)
def tyX4 : Nat → FieldType := fun k => match k with
  | 0 => .array (.object "WhirlShafts$Disc")
  | 1 => .array .int
  | 2 => .array .int
  | 3 => .array .int
  | 4 => .array .int
  | 5 => .array .int
  | 6 => .int
  | 7 => .int
  | _ => .int
theorem nmX4 : ∀ a, a < 9 → ∀ b, b < 9 → a ≠ b → (TX4 a).2.1 ≠ (TX4 b).2.1 := by decide +kernel
theorem tyX4_ok : ∀ k, k < 9 → parseFieldDescriptor (TX4 k).2.2.1 = some (tyX4 k) := by decide +kernel
theorem inX4_0 : u_lay RX4 TX4 0 ∈ q_TW := q_in 159 (by decide +kernel) (by decide +kernel)
theorem inX4_1 : u_lay RX4 TX4 1 ∈ q_TW := q_in 161 (by decide +kernel) (by decide +kernel)
theorem inX4_2 : u_lay RX4 TX4 2 ∈ q_TW := q_in 163 (by decide +kernel) (by decide +kernel)
theorem inX4_3 : u_lay RX4 TX4 3 ∈ q_TW := q_in 165 (by decide +kernel) (by decide +kernel)
theorem inX4_4 : u_lay RX4 TX4 4 ∈ q_TW := q_in 167 (by decide +kernel) (by decide +kernel)
theorem inX4_5 : u_lay RX4 TX4 5 ∈ q_TW := q_in 169 (by decide +kernel) (by decide +kernel)
theorem inX4_6 : u_lay RX4 TX4 6 ∈ q_TW := q_in 171 (by decide +kernel) (by decide +kernel)
theorem inX4_7 : u_lay RX4 TX4 7 ∈ q_TW := q_in 173 (by decide +kernel) (by decide +kernel)
theorem inX4_8 : u_lay RX4 TX4 8 ∈ q_TW := q_in 175 (by decide +kernel) (by decide +kernel)
theorem inX4 : ∀ w ∈ u_ws RX4 TX4 9, w ∈ q_TW := by
  intro w hw
  obtain ⟨k, hk, rfl⟩ := List.mem_map.mp hw
  have hk : k < 9 := List.mem_range.mp hk
  rcases (show k = 0 ∨ k = 1 ∨ k = 2 ∨ k = 3 ∨ k = 4 ∨ k = 5 ∨ k = 6 ∨ k = 7 ∨ k = 8 by omega) with rfl | rfl | rfl | rfl | rfl | rfl | rfl | rfl | rfl
  · exact inX4_0
  · exact inX4_1
  · exact inX4_2
  · exact inX4_3
  · exact inX4_4
  · exact inX4_5
  · exact inX4_6
  · exact inX4_7
  · exact inX4_8
def RX5 : String := "WhirlShafts$Orders"
def TX5 : u_T := fun k => match k with
  | 0 => ("WhirlShafts$Orders", "what", "[I", true)
  | 1 => ("WhirlShafts$Orders", "number", "[I", true)
  | 2 => ("WhirlShafts$Orders", "v", "[I", true)
  | _ => ("WhirlShafts$Orders", "waiting", "I", false)
def tyX5 : Nat → FieldType := fun k => match k with
  | 0 => .array .int
  | 1 => .array .int
  | 2 => .array .int
  | _ => .int
theorem nmX5 : ∀ a, a < 4 → ∀ b, b < 4 → a ≠ b → (TX5 a).2.1 ≠ (TX5 b).2.1 := by decide +kernel
theorem tyX5_ok : ∀ k, k < 4 → parseFieldDescriptor (TX5 k).2.2.1 = some (tyX5 k) := by decide +kernel
theorem inX5_0 : u_lay RX5 TX5 0 ∈ q_TW := q_in 192 (by decide +kernel) (by decide +kernel)
theorem inX5_1 : u_lay RX5 TX5 1 ∈ q_TW := q_in 194 (by decide +kernel) (by decide +kernel)
theorem inX5_2 : u_lay RX5 TX5 2 ∈ q_TW := q_in 196 (by decide +kernel) (by decide +kernel)
theorem inX5_3 : u_lay RX5 TX5 3 ∈ q_TW := q_in 198 (by decide +kernel) (by decide +kernel)
theorem inX5 : ∀ w ∈ u_ws RX5 TX5 4, w ∈ q_TW := by
  intro w hw
  obtain ⟨k, hk, rfl⟩ := List.mem_map.mp hw
  have hk : k < 4 := List.mem_range.mp hk
  rcases (show k = 0 ∨ k = 1 ∨ k = 2 ∨ k = 3 by omega) with rfl | rfl | rfl | rfl
  · exact inX5_0
  · exact inX5_1
  · exact inX5_2
  · exact inX5_3
def RX6 : String := "WhirlShafts$Rates"
def TX6 : u_T := fun k => match k with
  | 0 => ("WhirlShafts$Rates", "discs", "I", false)
  | 1 => ("WhirlShafts$Rates", "inertia", "[J", true)
  | 2 => ("WhirlShafts$Rates", "holds", "[J", true)
  | 3 => ("WhirlShafts$Rates", "stiff", "[J", true)
  | _ => ("WhirlShafts$Rates", "limbs", "[[J", true)
def tyX6 : Nat → FieldType := fun k => match k with
  | 0 => .int
  | 1 => .array .long
  | 2 => .array .long
  | 3 => .array .long
  | _ => .array (.array .long)
theorem nmX6 : ∀ a, a < 5 → ∀ b, b < 5 → a ≠ b → (TX6 a).2.1 ≠ (TX6 b).2.1 := by decide +kernel
theorem tyX6_ok : ∀ k, k < 5 → parseFieldDescriptor (TX6 k).2.2.1 = some (tyX6 k) := by decide +kernel
theorem inX6_0 : u_lay RX6 TX6 0 ∈ q_TW := q_in 241 (by decide +kernel) (by decide +kernel)
theorem inX6_1 : u_lay RX6 TX6 1 ∈ q_TW := q_in 243 (by decide +kernel) (by decide +kernel)
theorem inX6_2 : u_lay RX6 TX6 2 ∈ q_TW := q_in 245 (by decide +kernel) (by decide +kernel)
theorem inX6_3 : u_lay RX6 TX6 3 ∈ q_TW := q_in 247 (by decide +kernel) (by decide +kernel)
theorem inX6_4 : u_lay RX6 TX6 4 ∈ q_TW := q_in 249 (by decide +kernel) (by decide +kernel)
theorem inX6 : ∀ w ∈ u_ws RX6 TX6 5, w ∈ q_TW := by
  intro w hw
  obtain ⟨k, hk, rfl⟩ := List.mem_map.mp hw
  have hk : k < 5 := List.mem_range.mp hk
  rcases (show k = 0 ∨ k = 1 ∨ k = 2 ∨ k = 3 ∨ k = 4 by omega) with rfl | rfl | rfl | rfl | rfl
  · exact inX6_0
  · exact inX6_1
  · exact inX6_2
  · exact inX6_3
  · exact inX6_4
def RX7 : String := "WhirlShafts$Rim"
def TX7 : u_T := fun k => match k with
  | 0 => ("WhirlShafts$Disc", "bodies", "[I", true)
  | 1 => ("WhirlShafts$Disc", "ran", "I", false)
  | 2 => ("WhirlShafts$Disc", "number", "I", false)
  | _ => ("WhirlShafts$Disc", "mass", "I", false)
def tyX7 : Nat → FieldType := fun k => match k with
  | 0 => .array .int
  | 1 => .int
  | 2 => .int
  | _ => .int
theorem nmX7 : ∀ a, a < 4 → ∀ b, b < 4 → a ≠ b → (TX7 a).2.1 ≠ (TX7 b).2.1 := by decide +kernel
theorem tyX7_ok : ∀ k, k < 4 → parseFieldDescriptor (TX7 k).2.2.1 = some (tyX7 k) := by decide +kernel
theorem inX7_0 : u_lay RX7 TX7 0 ∈ q_TW := q_in 99 (by decide +kernel) (by decide +kernel)
theorem inX7_1 : u_lay RX7 TX7 1 ∈ q_TW := q_in 100 (by decide +kernel) (by decide +kernel)
theorem inX7_2 : u_lay RX7 TX7 2 ∈ q_TW := q_in 101 (by decide +kernel) (by decide +kernel)
theorem inX7_3 : u_lay RX7 TX7 3 ∈ q_TW := q_in 102 (by decide +kernel) (by decide +kernel)
theorem inX7 : ∀ w ∈ u_ws RX7 TX7 4, w ∈ q_TW := by
  intro w hw
  obtain ⟨k, hk, rfl⟩ := List.mem_map.mp hw
  have hk : k < 4 := List.mem_range.mp hk
  rcases (show k = 0 ∨ k = 1 ∨ k = 2 ∨ k = 3 by omega) with rfl | rfl | rfl | rfl
  · exact inX7_0
  · exact inX7_1
  · exact inX7_2
  · exact inX7_3
def RX8 : String := "WhirlShafts$Row"
def TX8 : u_T := fun k => match k with
  | 0 => ("WhirlShafts$Row", "places", "[J", true)
  | 1 => ("WhirlShafts$Row", "sort", "I", false)
  | _ => ("WhirlShafts$Row", "size", "I", false)
def tyX8 : Nat → FieldType := fun k => match k with
  | 0 => .array .long
  | 1 => .int
  | _ => .int
theorem nmX8 : ∀ a, a < 3 → ∀ b, b < 3 → a ≠ b → (TX8 a).2.1 ≠ (TX8 b).2.1 := by decide +kernel
theorem tyX8_ok : ∀ k, k < 3 → parseFieldDescriptor (TX8 k).2.2.1 = some (tyX8 k) := by decide +kernel
theorem inX8_0 : u_lay RX8 TX8 0 ∈ q_TW := q_in 288 (by decide +kernel) (by decide +kernel)
theorem inX8_1 : u_lay RX8 TX8 1 ∈ q_TW := q_in 290 (by decide +kernel) (by decide +kernel)
theorem inX8_2 : u_lay RX8 TX8 2 ∈ q_TW := q_in 292 (by decide +kernel) (by decide +kernel)
theorem inX8 : ∀ w ∈ u_ws RX8 TX8 3, w ∈ q_TW := by
  intro w hw
  obtain ⟨k, hk, rfl⟩ := List.mem_map.mp hw
  have hk : k < 3 := List.mem_range.mp hk
  rcases (show k = 0 ∨ k = 1 ∨ k = 2 by omega) with rfl | rfl | rfl
  · exact inX8_0
  · exact inX8_1
  · exact inX8_2
def RX9 : String := "WhirlShafts$Shell"
def TX9 : u_T := fun k => match k with
  | 0 => ("WhirlShafts$Disc", "bodies", "[I", true)
  | 1 => ("WhirlShafts$Disc", "ran", "I", false)
  | 2 => ("WhirlShafts$Disc", "number", "I", false)
  | _ => ("WhirlShafts$Disc", "mass", "I", false)
def tyX9 : Nat → FieldType := fun k => match k with
  | 0 => .array .int
  | 1 => .int
  | 2 => .int
  | _ => .int
theorem nmX9 : ∀ a, a < 4 → ∀ b, b < 4 → a ≠ b → (TX9 a).2.1 ≠ (TX9 b).2.1 := by decide +kernel
theorem tyX9_ok : ∀ k, k < 4 → parseFieldDescriptor (TX9 k).2.2.1 = some (tyX9 k) := by decide +kernel
theorem inX9_0 : u_lay RX9 TX9 0 ∈ q_TW := q_in 132 (by decide +kernel) (by decide +kernel)
theorem inX9_1 : u_lay RX9 TX9 1 ∈ q_TW := q_in 133 (by decide +kernel) (by decide +kernel)
theorem inX9_2 : u_lay RX9 TX9 2 ∈ q_TW := q_in 134 (by decide +kernel) (by decide +kernel)
theorem inX9_3 : u_lay RX9 TX9 3 ∈ q_TW := q_in 135 (by decide +kernel) (by decide +kernel)
theorem inX9 : ∀ w ∈ u_ws RX9 TX9 4, w ∈ q_TW := by
  intro w hw
  obtain ⟨k, hk, rfl⟩ := List.mem_map.mp hw
  have hk : k < 4 := List.mem_range.mp hk
  rcases (show k = 0 ∨ k = 1 ∨ k = 2 ∨ k = 3 by omega) with rfl | rfl | rfl | rfl
  · exact inX9_0
  · exact inX9_1
  · exact inX9_2
  · exact inX9_3
def RX10 : String := "WhirlShafts$Tape"
def TX10 : u_T := fun k => match k with
  | 0 => ("WhirlShafts$Tape", "bytes", "[I", true)
  | 1 => ("WhirlShafts$Tape", "length", "I", false)
  | 2 => ("WhirlShafts$Tape", "at", "I", false)
  | _ => ("WhirlShafts$Tape", "numbers", "[I", true)
def tyX10 : Nat → FieldType := fun k => match k with
  | 0 => .array .int
  | 1 => .int
  | 2 => .int
  | _ => .array .int
theorem nmX10 : ∀ a, a < 4 → ∀ b, b < 4 → a ≠ b → (TX10 a).2.1 ≠ (TX10 b).2.1 := by decide +kernel
theorem tyX10_ok : ∀ k, k < 4 → parseFieldDescriptor (TX10 k).2.2.1 = some (tyX10 k) := by decide +kernel
theorem inX10_0 : u_lay RX10 TX10 0 ∈ q_TW := q_in 266 (by decide +kernel) (by decide +kernel)
theorem inX10_1 : u_lay RX10 TX10 1 ∈ q_TW := q_in 268 (by decide +kernel) (by decide +kernel)
theorem inX10_2 : u_lay RX10 TX10 2 ∈ q_TW := q_in 270 (by decide +kernel) (by decide +kernel)
theorem inX10_3 : u_lay RX10 TX10 3 ∈ q_TW := q_in 272 (by decide +kernel) (by decide +kernel)
theorem inX10 : ∀ w ∈ u_ws RX10 TX10 4, w ∈ q_TW := by
  intro w hw
  obtain ⟨k, hk, rfl⟩ := List.mem_map.mp hw
  have hk : k < 4 := List.mem_range.mp hk
  rcases (show k = 0 ∨ k = 1 ∨ k = 2 ∨ k = 3 by omega) with rfl | rfl | rfl | rfl
  · exact inX10_0
  · exact inX10_1
  · exact inX10_2
  · exact inX10_3
def RX11 : String := "WhirlShafts"
def TX11 : u_T := fun k => match k with
  | 0 => ("WhirlShafts", "kinds", "[LWhirlShafts$Disc;", true)
  | 1 => ("WhirlShafts", "latest", "LWhirlShafts$Disc;", false)
  | 2 => ("WhirlShafts", "line", "LWhirlShafts$Line;", true)
  | 3 => ("WhirlShafts", "trial", "LWhirlShafts$Line;", true)
  | 4 => ("WhirlShafts", "image", "LWhirlShafts$Line;", true)
  | 5 => ("WhirlShafts", "imaged", "Z", false)
  | 6 => ("WhirlShafts", "orders", "LWhirlShafts$Orders;", true)
  | 7 => ("WhirlShafts", "imageOrders", "LWhirlShafts$Orders;", true)
  | 8 => ("WhirlShafts", "changes", "LWhirlShafts$Changes;", true)
  | 9 => ("WhirlShafts", "rates", "LWhirlShafts$Rates;", true)
  | 10 => ("WhirlShafts", "tape", "LWhirlShafts$Tape;", true)
  | _ => ("WhirlShafts", "rows", "[LWhirlShafts$Row;", true)
def tyX11 : Nat → FieldType := fun k => match k with
  | 0 => .array (.object "WhirlShafts$Disc")
  | 1 => .object "WhirlShafts$Disc"
  | 2 => .object "WhirlShafts$Line"
  | 3 => .object "WhirlShafts$Line"
  | 4 => .object "WhirlShafts$Line"
  | 5 => .boolean
  | 6 => .object "WhirlShafts$Orders"
  | 7 => .object "WhirlShafts$Orders"
  | 8 => .object "WhirlShafts$Changes"
  | 9 => .object "WhirlShafts$Rates"
  | 10 => .object "WhirlShafts$Tape"
  | _ => .array (.object "WhirlShafts$Row")
theorem nmX11 : ∀ a, a < 12 → ∀ b, b < 12 → a ≠ b → (TX11 a).2.1 ≠ (TX11 b).2.1 := by decide +kernel
theorem tyX11_ok : ∀ k, k < 12 → parseFieldDescriptor (TX11 k).2.2.1 = some (tyX11 k) := by decide +kernel
theorem inX11_0 : u_lay RX11 TX11 0 ∈ q_TW := q_in 307 (by decide +kernel) (by decide +kernel)
theorem inX11_1 : u_lay RX11 TX11 1 ∈ q_TW := q_in 309 (by decide +kernel) (by decide +kernel)
theorem inX11_2 : u_lay RX11 TX11 2 ∈ q_TW := q_in 311 (by decide +kernel) (by decide +kernel)
theorem inX11_3 : u_lay RX11 TX11 3 ∈ q_TW := q_in 313 (by decide +kernel) (by decide +kernel)
theorem inX11_4 : u_lay RX11 TX11 4 ∈ q_TW := q_in 315 (by decide +kernel) (by decide +kernel)
theorem inX11_5 : u_lay RX11 TX11 5 ∈ q_TW := q_in 317 (by decide +kernel) (by decide +kernel)
theorem inX11_6 : u_lay RX11 TX11 6 ∈ q_TW := q_in 319 (by decide +kernel) (by decide +kernel)
theorem inX11_7 : u_lay RX11 TX11 7 ∈ q_TW := q_in 321 (by decide +kernel) (by decide +kernel)
theorem inX11_8 : u_lay RX11 TX11 8 ∈ q_TW := q_in 323 (by decide +kernel) (by decide +kernel)
theorem inX11_9 : u_lay RX11 TX11 9 ∈ q_TW := q_in 325 (by decide +kernel) (by decide +kernel)
theorem inX11_10 : u_lay RX11 TX11 10 ∈ q_TW := q_in 327 (by decide +kernel) (by decide +kernel)
theorem inX11_11 : u_lay RX11 TX11 11 ∈ q_TW := q_in 329 (by decide +kernel) (by decide +kernel)
theorem inX11 : ∀ w ∈ u_ws RX11 TX11 12, w ∈ q_TW := by
  intro w hw
  obtain ⟨k, hk, rfl⟩ := List.mem_map.mp hw
  have hk : k < 12 := List.mem_range.mp hk
  rcases (show k = 0 ∨ k = 1 ∨ k = 2 ∨ k = 3 ∨ k = 4 ∨ k = 5 ∨ k = 6 ∨ k = 7 ∨ k = 8 ∨ k = 9 ∨ k = 10 ∨ k = 11 by omega) with rfl | rfl | rfl | rfl | rfl | rfl | rfl | rfl | rfl | rfl | rfl | rfl
  · exact inX11_0
  · exact inX11_1
  · exact inX11_2
  · exact inX11_3
  · exact inX11_4
  · exact inX11_5
  · exact inX11_6
  · exact inX11_7
  · exact inX11_8
  · exact inX11_9
  · exact inX11_10
  · exact inX11_11
def RX12 : String := "WhirlShaftsModel"
def TX12 : u_T := fun k => match k with
  | 0 => ("WhirlShaftsModel", "discs", "I", false)
  | 1 => ("WhirlShaftsModel", "spin", "I", false)
  | 2 => ("WhirlShaftsModel", "way", "I", false)
  | 3 => ("WhirlShaftsModel", "kind", "[I", true)
  | 4 => ("WhirlShaftsModel", "mass", "[I", true)
  | 5 => ("WhirlShaftsModel", "bearing", "[I", true)
  | 6 => ("WhirlShaftsModel", "stiff", "[I", true)
  | 7 => ("WhirlShaftsModel", "ratio", "[I", true)
  | 8 => ("WhirlShaftsModel", "factor", "[I", true)
  | 9 => ("WhirlShaftsModel", "inertia", "[I", true)
  | 10 => ("WhirlShaftsModel", "bears", "[I", true)
  | 11 => ("WhirlShaftsModel", "stiffs", "[I", true)
  | 12 => ("WhirlShaftsModel", "holds", "[I", true)
  | 13 => ("WhirlShaftsModel", "digits", "[J", true)
  | 14 => ("WhirlShaftsModel", "signs", "[I", true)
  | 15 => ("WhirlShaftsModel", "rests", "[I", true)
  | 16 => ("WhirlShaftsModel", "changeWhat", "[I", true)
  | 17 => ("WhirlShaftsModel", "changeNumber", "[I", true)
  | 18 => ("WhirlShaftsModel", "changeWas", "[I", true)
  | 19 => ("WhirlShaftsModel", "changeNow", "[I", true)
  | 20 => ("WhirlShaftsModel", "undos", "I", false)
  | 21 => ("WhirlShaftsModel", "redos", "I", false)
  | 22 => ("WhirlShaftsModel", "sorts", "[I", true)
  | 23 => ("WhirlShaftsModel", "sizes", "[I", true)
  | 24 => ("WhirlShaftsModel", "items", "[J", true)
  | 25 => ("WhirlShaftsModel", "moved", "[J", true)
  | 26 => ("WhirlShaftsModel", "orders", "I", false)
  | 27 => ("WhirlShaftsModel", "orderWhat", "[I", true)
  | 28 => ("WhirlShaftsModel", "orderNumber", "[I", true)
  | 29 => ("WhirlShaftsModel", "orderV", "[I", true)
  | 30 => ("WhirlShaftsModel", "tape", "[I", true)
  | 31 => ("WhirlShaftsModel", "letter", "[I", true)
  | 32 => ("WhirlShaftsModel", "first", "[I", true)
  | 33 => ("WhirlShaftsModel", "second", "[I", true)
  | 34 => ("WhirlShaftsModel", "third", "[I", true)
  | 35 => ("WhirlShaftsModel", "taped", "I", false)
  | 36 => ("WhirlShaftsModel", "at", "I", false)
  | 37 => ("WhirlShaftsModel", "acts", "I", false)
  | 38 => ("WhirlShaftsModel", "traced", "[I", true)
  | 39 => ("WhirlShaftsModel", "ran", "I", false)
  | 40 => ("WhirlShaftsModel", "kept", "[I", true)
  | 41 => ("WhirlShaftsModel", "imageInertia", "[I", true)
  | 42 => ("WhirlShaftsModel", "imageBears", "[I", true)
  | 43 => ("WhirlShaftsModel", "imageStiffs", "[I", true)
  | 44 => ("WhirlShaftsModel", "cursor", "I", false)
  | 45 => ("WhirlShaftsModel", "imageDiscs", "I", false)
  | _ => ("WhirlShaftsModel", "isKeeping", "Z", false)
def tyX12 : Nat → FieldType := fun k => match k with
  | 0 => .int
  | 1 => .int
  | 2 => .int
  | 3 => .array .int
  | 4 => .array .int
  | 5 => .array .int
  | 6 => .array .int
  | 7 => .array .int
  | 8 => .array .int
  | 9 => .array .int
  | 10 => .array .int
  | 11 => .array .int
  | 12 => .array .int
  | 13 => .array .long
  | 14 => .array .int
  | 15 => .array .int
  | 16 => .array .int
  | 17 => .array .int
  | 18 => .array .int
  | 19 => .array .int
  | 20 => .int
  | 21 => .int
  | 22 => .array .int
  | 23 => .array .int
  | 24 => .array .long
  | 25 => .array .long
  | 26 => .int
  | 27 => .array .int
  | 28 => .array .int
  | 29 => .array .int
  | 30 => .array .int
  | 31 => .array .int
  | 32 => .array .int
  | 33 => .array .int
  | 34 => .array .int
  | 35 => .int
  | 36 => .int
  | 37 => .int
  | 38 => .array .int
  | 39 => .int
  | 40 => .array .int
  | 41 => .array .int
  | 42 => .array .int
  | 43 => .array .int
  | 44 => .int
  | 45 => .int
  | _ => .boolean
theorem nmX12 : ∀ a, a < 47 → ∀ b, b < 47 → a ≠ b → (TX12 a).2.1 ≠ (TX12 b).2.1 := by decide +kernel
theorem tyX12_ok : ∀ k, k < 47 → parseFieldDescriptor (TX12 k).2.2.1 = some (tyX12 k) := by decide +kernel
theorem inX12_0 : u_lay RX12 TX12 0 ∈ q_TW := q_in 941 (by decide +kernel) (by decide +kernel)
theorem inX12_1 : u_lay RX12 TX12 1 ∈ q_TW := q_in 943 (by decide +kernel) (by decide +kernel)
theorem inX12_2 : u_lay RX12 TX12 2 ∈ q_TW := q_in 945 (by decide +kernel) (by decide +kernel)
theorem inX12_3 : u_lay RX12 TX12 3 ∈ q_TW := q_in 947 (by decide +kernel) (by decide +kernel)
theorem inX12_4 : u_lay RX12 TX12 4 ∈ q_TW := q_in 949 (by decide +kernel) (by decide +kernel)
theorem inX12_5 : u_lay RX12 TX12 5 ∈ q_TW := q_in 951 (by decide +kernel) (by decide +kernel)
theorem inX12_6 : u_lay RX12 TX12 6 ∈ q_TW := q_in 953 (by decide +kernel) (by decide +kernel)
theorem inX12_7 : u_lay RX12 TX12 7 ∈ q_TW := q_in 955 (by decide +kernel) (by decide +kernel)
theorem inX12_8 : u_lay RX12 TX12 8 ∈ q_TW := q_in 957 (by decide +kernel) (by decide +kernel)
theorem inX12_9 : u_lay RX12 TX12 9 ∈ q_TW := q_in 959 (by decide +kernel) (by decide +kernel)
theorem inX12_10 : u_lay RX12 TX12 10 ∈ q_TW := q_in 961 (by decide +kernel) (by decide +kernel)
theorem inX12_11 : u_lay RX12 TX12 11 ∈ q_TW := q_in 963 (by decide +kernel) (by decide +kernel)
theorem inX12_12 : u_lay RX12 TX12 12 ∈ q_TW := q_in 965 (by decide +kernel) (by decide +kernel)
theorem inX12_13 : u_lay RX12 TX12 13 ∈ q_TW := q_in 967 (by decide +kernel) (by decide +kernel)
theorem inX12_14 : u_lay RX12 TX12 14 ∈ q_TW := q_in 969 (by decide +kernel) (by decide +kernel)
theorem inX12_15 : u_lay RX12 TX12 15 ∈ q_TW := q_in 971 (by decide +kernel) (by decide +kernel)
theorem inX12_16 : u_lay RX12 TX12 16 ∈ q_TW := q_in 973 (by decide +kernel) (by decide +kernel)
theorem inX12_17 : u_lay RX12 TX12 17 ∈ q_TW := q_in 975 (by decide +kernel) (by decide +kernel)
theorem inX12_18 : u_lay RX12 TX12 18 ∈ q_TW := q_in 977 (by decide +kernel) (by decide +kernel)
theorem inX12_19 : u_lay RX12 TX12 19 ∈ q_TW := q_in 979 (by decide +kernel) (by decide +kernel)
theorem inX12_20 : u_lay RX12 TX12 20 ∈ q_TW := q_in 981 (by decide +kernel) (by decide +kernel)
theorem inX12_21 : u_lay RX12 TX12 21 ∈ q_TW := q_in 983 (by decide +kernel) (by decide +kernel)
theorem inX12_22 : u_lay RX12 TX12 22 ∈ q_TW := q_in 985 (by decide +kernel) (by decide +kernel)
theorem inX12_23 : u_lay RX12 TX12 23 ∈ q_TW := q_in 987 (by decide +kernel) (by decide +kernel)
theorem inX12_24 : u_lay RX12 TX12 24 ∈ q_TW := q_in 989 (by decide +kernel) (by decide +kernel)
theorem inX12_25 : u_lay RX12 TX12 25 ∈ q_TW := q_in 991 (by decide +kernel) (by decide +kernel)
theorem inX12_26 : u_lay RX12 TX12 26 ∈ q_TW := q_in 993 (by decide +kernel) (by decide +kernel)
theorem inX12_27 : u_lay RX12 TX12 27 ∈ q_TW := q_in 995 (by decide +kernel) (by decide +kernel)
theorem inX12_28 : u_lay RX12 TX12 28 ∈ q_TW := q_in 997 (by decide +kernel) (by decide +kernel)
theorem inX12_29 : u_lay RX12 TX12 29 ∈ q_TW := q_in 999 (by decide +kernel) (by decide +kernel)
theorem inX12_30 : u_lay RX12 TX12 30 ∈ q_TW := q_in 1001 (by decide +kernel) (by decide +kernel)
theorem inX12_31 : u_lay RX12 TX12 31 ∈ q_TW := q_in 1003 (by decide +kernel) (by decide +kernel)
theorem inX12_32 : u_lay RX12 TX12 32 ∈ q_TW := q_in 1005 (by decide +kernel) (by decide +kernel)
theorem inX12_33 : u_lay RX12 TX12 33 ∈ q_TW := q_in 1007 (by decide +kernel) (by decide +kernel)
theorem inX12_34 : u_lay RX12 TX12 34 ∈ q_TW := q_in 1009 (by decide +kernel) (by decide +kernel)
theorem inX12_35 : u_lay RX12 TX12 35 ∈ q_TW := q_in 1011 (by decide +kernel) (by decide +kernel)
theorem inX12_36 : u_lay RX12 TX12 36 ∈ q_TW := q_in 1013 (by decide +kernel) (by decide +kernel)
theorem inX12_37 : u_lay RX12 TX12 37 ∈ q_TW := q_in 1015 (by decide +kernel) (by decide +kernel)
theorem inX12_38 : u_lay RX12 TX12 38 ∈ q_TW := q_in 1017 (by decide +kernel) (by decide +kernel)
theorem inX12_39 : u_lay RX12 TX12 39 ∈ q_TW := q_in 1019 (by decide +kernel) (by decide +kernel)
theorem inX12_40 : u_lay RX12 TX12 40 ∈ q_TW := q_in 1021 (by decide +kernel) (by decide +kernel)
theorem inX12_41 : u_lay RX12 TX12 41 ∈ q_TW := q_in 1023 (by decide +kernel) (by decide +kernel)
theorem inX12_42 : u_lay RX12 TX12 42 ∈ q_TW := q_in 1025 (by decide +kernel) (by decide +kernel)
theorem inX12_43 : u_lay RX12 TX12 43 ∈ q_TW := q_in 1027 (by decide +kernel) (by decide +kernel)
theorem inX12_44 : u_lay RX12 TX12 44 ∈ q_TW := q_in 1029 (by decide +kernel) (by decide +kernel)
theorem inX12_45 : u_lay RX12 TX12 45 ∈ q_TW := q_in 1031 (by decide +kernel) (by decide +kernel)
theorem inX12_46 : u_lay RX12 TX12 46 ∈ q_TW := q_in 1033 (by decide +kernel) (by decide +kernel)
theorem inX12 : ∀ w ∈ u_ws RX12 TX12 47, w ∈ q_TW := by
  intro w hw
  obtain ⟨k, hk, rfl⟩ := List.mem_map.mp hw
  have hk : k < 47 := List.mem_range.mp hk
  rcases (show k = 0 ∨ k = 1 ∨ k = 2 ∨ k = 3 ∨ k = 4 ∨ k = 5 ∨ k = 6 ∨ k = 7 ∨ k = 8 ∨ k = 9 ∨ k = 10 ∨ k = 11 ∨ k = 12 ∨ k = 13 ∨ k = 14 ∨ k = 15 ∨ k = 16 ∨ k = 17 ∨ k = 18 ∨ k = 19 ∨ k = 20 ∨ k = 21 ∨ k = 22 ∨ k = 23 ∨ k = 24 ∨ k = 25 ∨ k = 26 ∨ k = 27 ∨ k = 28 ∨ k = 29 ∨ k = 30 ∨ k = 31 ∨ k = 32 ∨ k = 33 ∨ k = 34 ∨ k = 35 ∨ k = 36 ∨ k = 37 ∨ k = 38 ∨ k = 39 ∨ k = 40 ∨ k = 41 ∨ k = 42 ∨ k = 43 ∨ k = 44 ∨ k = 45 ∨ k = 46 by omega) with rfl | rfl | rfl | rfl | rfl | rfl | rfl | rfl | rfl | rfl | rfl | rfl | rfl | rfl | rfl | rfl | rfl | rfl | rfl | rfl | rfl | rfl | rfl | rfl | rfl | rfl | rfl | rfl | rfl | rfl | rfl | rfl | rfl | rfl | rfl | rfl | rfl | rfl | rfl | rfl | rfl | rfl | rfl | rfl | rfl | rfl | rfl
  · exact inX12_0
  · exact inX12_1
  · exact inX12_2
  · exact inX12_3
  · exact inX12_4
  · exact inX12_5
  · exact inX12_6
  · exact inX12_7
  · exact inX12_8
  · exact inX12_9
  · exact inX12_10
  · exact inX12_11
  · exact inX12_12
  · exact inX12_13
  · exact inX12_14
  · exact inX12_15
  · exact inX12_16
  · exact inX12_17
  · exact inX12_18
  · exact inX12_19
  · exact inX12_20
  · exact inX12_21
  · exact inX12_22
  · exact inX12_23
  · exact inX12_24
  · exact inX12_25
  · exact inX12_26
  · exact inX12_27
  · exact inX12_28
  · exact inX12_29
  · exact inX12_30
  · exact inX12_31
  · exact inX12_32
  · exact inX12_33
  · exact inX12_34
  · exact inX12_35
  · exact inX12_36
  · exact inX12_37
  · exact inX12_38
  · exact inX12_39
  · exact inX12_40
  · exact inX12_41
  · exact inX12_42
  · exact inX12_43
  · exact inX12_44
  · exact inX12_45
  · exact inX12_46
abbrev q_cn : List vw_C := [(RX0, TX0, 6), (RX1, TX1, 4), (RX2, TX2, 4), (RX3, TX3, 4), (RX4, TX4, 9), (RX5, TX5, 4), (RX6, TX6, 5), (RX7, TX7, 4), (RX8, TX8, 3), (RX9, TX9, 4), (RX10, TX10, 4), (RX11, TX11, 12), (RX12, TX12, 47)]
theorem q_cn_ok (c : Nat) (hc : c < 13) : ∃ (C : String) (T : u_T) (ty0 : Nat → FieldType), q_cn[c]? = some (C, T, q_nf c) ∧ (∀ w ∈ u_ws C T (q_nf c), w ∈ q_TW) ∧ (∀ k, k < q_nf c → parseFieldDescriptor (T k).2.2.1 = some (ty0 k)) ∧ (∀ a, a < q_nf c → ∀ b, b < q_nf c → a ≠ b → (T a).2.1 ≠ (T b).2.1) := by
  rcases (show c = 0 ∨ c = 1 ∨ c = 2 ∨ c = 3 ∨ c = 4 ∨ c = 5 ∨ c = 6 ∨ c = 7 ∨ c = 8 ∨ c = 9 ∨ c = 10 ∨ c = 11 ∨ c = 12 by omega) with rfl | rfl | rfl | rfl | rfl | rfl | rfl | rfl | rfl | rfl | rfl | rfl | rfl
  · exact ⟨RX0, TX0, tyX0, rfl, inX0, tyX0_ok, nmX0⟩
  · exact ⟨RX1, TX1, tyX1, rfl, inX1, tyX1_ok, nmX1⟩
  · exact ⟨RX2, TX2, tyX2, rfl, inX2, tyX2_ok, nmX2⟩
  · exact ⟨RX3, TX3, tyX3, rfl, inX3, tyX3_ok, nmX3⟩
  · exact ⟨RX4, TX4, tyX4, rfl, inX4, tyX4_ok, nmX4⟩
  · exact ⟨RX5, TX5, tyX5, rfl, inX5, tyX5_ok, nmX5⟩
  · exact ⟨RX6, TX6, tyX6, rfl, inX6, tyX6_ok, nmX6⟩
  · exact ⟨RX7, TX7, tyX7, rfl, inX7, tyX7_ok, nmX7⟩
  · exact ⟨RX8, TX8, tyX8, rfl, inX8, tyX8_ok, nmX8⟩
  · exact ⟨RX9, TX9, tyX9, rfl, inX9, tyX9_ok, nmX9⟩
  · exact ⟨RX10, TX10, tyX10, rfl, inX10, tyX10_ok, nmX10⟩
  · exact ⟨RX11, TX11, tyX11, rfl, inX11, tyX11_ok, nmX11⟩
  · exact ⟨RX12, TX12, tyX12, rfl, inX12, tyX12_ok, nmX12⟩
