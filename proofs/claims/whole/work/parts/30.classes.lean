/-! the classes whose objects there are, and their fields in the order of the slots (printed by wip/whole/gen3.py) -/
def FT_0 : u_T := fun k => match k with
  | 0 => ("SegmentDesk", "message", "LSegmentDesk$Message;", true)
  | 1 => ("SegmentDesk", "reader", "LSegmentDesk$Reader;", true)
  | 2 => ("SegmentDesk", "builder", "LSegmentDesk$Builder;", true)
  | 3 => ("SegmentDesk", "frame", "LSegmentDesk$Frame;", true)
  | 4 => ("SegmentDesk", "canon", "LSegmentDesk$Canon;", true)
  | 5 => ("SegmentDesk", "cursors", "[LSegmentDesk$Spot;", true)
  | 6 => ("SegmentDesk", "octets", "LSegmentDesk$Octets;", false)
  | _ => ("SegmentDesk", "spare", "LSegmentDesk$Octets;", false)
def fy_0 : Nat → FieldType := fun k => match k with
  | 0 => .object "SegmentDesk$Message"
  | 1 => .object "SegmentDesk$Reader"
  | 2 => .object "SegmentDesk$Builder"
  | 3 => .object "SegmentDesk$Frame"
  | 4 => .object "SegmentDesk$Canon"
  | 5 => .array (.object "SegmentDesk$Spot")
  | 6 => .object "SegmentDesk$Octets"
  | _ => .object "SegmentDesk$Octets"
theorem fn_0 : ∀ a, a < 8 → ∀ b, b < 8 → a ≠ b → (FT_0 a).2.1 ≠ (FT_0 b).2.1 := by decide +kernel
theorem ft_0 : ∀ k, k < 8 → parseFieldDescriptor (FT_0 k).2.2.1 = some (fy_0 k) := by decide +kernel
def FT_1 : u_T := fun k => match k with
  | 0 => ("SegmentDesk$Message", "words", "[[J", true)
  | 1 => ("SegmentDesk$Message", "used", "[I", true)
  | 2 => ("SegmentDesk$Message", "segments", "I", false)
  | _ => ("SegmentDesk$Message", "size", "I", false)
def fy_1 : Nat → FieldType := fun k => match k with
  | 0 => .array (.array .long)
  | 1 => .array .int
  | 2 => .int
  | _ => .int
theorem fn_1 : ∀ a, a < 4 → ∀ b, b < 4 → a ≠ b → (FT_1 a).2.1 ≠ (FT_1 b).2.1 := by decide +kernel
theorem ft_1 : ∀ k, k < 4 → parseFieldDescriptor (FT_1 k).2.2.1 = some (fy_1 k) := by decide +kernel
def FT_2 : u_T := fun k => match k with
  | 0 => ("SegmentDesk$Reader", "allowance", "I", false)
  | 1 => ("SegmentDesk$Reader", "segment", "I", false)
  | 2 => ("SegmentDesk$Reader", "place", "I", false)
  | _ => ("SegmentDesk$Reader", "what", "J", false)
def fy_2 : Nat → FieldType := fun k => match k with
  | 0 => .int
  | 1 => .int
  | 2 => .int
  | _ => .long
theorem fn_2 : ∀ a, a < 4 → ∀ b, b < 4 → a ≠ b → (FT_2 a).2.1 ≠ (FT_2 b).2.1 := by decide +kernel
theorem ft_2 : ∀ k, k < 4 → parseFieldDescriptor (FT_2 k).2.2.1 = some (fy_2 k) := by decide +kernel
def FT_3 : u_T := fun k => match k with
  | 0 => ("SegmentDesk$Builder", "segment", "I", false)
  | _ => ("SegmentDesk$Builder", "place", "I", false)
def fy_3 : Nat → FieldType := fun k => match k with
  | 0 => .int
  | _ => .int
theorem fn_3 : ∀ a, a < 2 → ∀ b, b < 2 → a ≠ b → (FT_3 a).2.1 ≠ (FT_3 b).2.1 := by decide +kernel
theorem ft_3 : ∀ k, k < 2 → parseFieldDescriptor (FT_3 k).2.2.1 = some (fy_3 k) := by decide +kernel
def FT_4 : u_T := fun k => match k with
  | 0 => ("SegmentDesk$Frame", "groups", "[J", true)
  | 1 => ("SegmentDesk$Frame", "count", "I", false)
  | _ => ("SegmentDesk$Frame", "next", "I", false)
def fy_4 : Nat → FieldType := fun k => match k with
  | 0 => .array .long
  | 1 => .int
  | _ => .int
theorem fn_4 : ∀ a, a < 3 → ∀ b, b < 3 → a ≠ b → (FT_4 a).2.1 ≠ (FT_4 b).2.1 := by decide +kernel
theorem ft_4 : ∀ k, k < 3 → parseFieldDescriptor (FT_4 k).2.2.1 = some (fy_4 k) := by decide +kernel
def FT_5 : u_T := fun k => match k with
  | 0 => ("SegmentDesk$Canon", "words", "[J", true)
  | 1 => ("SegmentDesk$Canon", "used", "I", false)
  | _ => ("SegmentDesk$Canon", "levels", "[LSegmentDesk$Level;", true)
def fy_5 : Nat → FieldType := fun k => match k with
  | 0 => .array .long
  | 1 => .int
  | _ => .array (.object "SegmentDesk$Level")
theorem fn_5 : ∀ a, a < 3 → ∀ b, b < 3 → a ≠ b → (FT_5 a).2.1 ≠ (FT_5 b).2.1 := by decide +kernel
theorem ft_5 : ∀ k, k < 3 → parseFieldDescriptor (FT_5 k).2.2.1 = some (fy_5 k) := by decide +kernel
def FT_6 : u_T := fun k => match k with
  | 0 => ("SegmentDesk$Level", "spot", "LSegmentDesk$Spot;", true)
  | 1 => ("SegmentDesk$Level", "elements", "I", false)
  | 2 => ("SegmentDesk$Level", "from", "I", false)
  | 3 => ("SegmentDesk$Level", "fromData", "I", false)
  | 4 => ("SegmentDesk$Level", "fromPointers", "I", false)
  | 5 => ("SegmentDesk$Level", "to", "I", false)
  | 6 => ("SegmentDesk$Level", "data", "I", false)
  | _ => ("SegmentDesk$Level", "pointers", "I", false)
def fy_6 : Nat → FieldType := fun k => match k with
  | 0 => .object "SegmentDesk$Spot"
  | 1 => .int
  | 2 => .int
  | 3 => .int
  | 4 => .int
  | 5 => .int
  | 6 => .int
  | _ => .int
theorem fn_6 : ∀ a, a < 8 → ∀ b, b < 8 → a ≠ b → (FT_6 a).2.1 ≠ (FT_6 b).2.1 := by decide +kernel
theorem ft_6 : ∀ k, k < 8 → parseFieldDescriptor (FT_6 k).2.2.1 = some (fy_6 k) := by decide +kernel
def FT_7 : u_T := fun k => match k with
  | 0 => ("SegmentDesk$Spot", "kind", "I", false)
  | 1 => ("SegmentDesk$Spot", "depth", "I", false)
  | 2 => ("SegmentDesk$Spot", "segment", "I", false)
  | 3 => ("SegmentDesk$Spot", "place", "I", false)
  | 4 => ("SegmentDesk$Spot", "shift", "I", false)
  | 5 => ("SegmentDesk$Spot", "dataBits", "I", false)
  | 6 => ("SegmentDesk$Spot", "pointers", "I", false)
  | 7 => ("SegmentDesk$Spot", "count", "I", false)
  | _ => ("SegmentDesk$Spot", "code", "I", false)
def fy_7 : Nat → FieldType := fun k => match k with
  | 0 => .int
  | 1 => .int
  | 2 => .int
  | 3 => .int
  | 4 => .int
  | 5 => .int
  | 6 => .int
  | 7 => .int
  | _ => .int
theorem fn_7 : ∀ a, a < 9 → ∀ b, b < 9 → a ≠ b → (FT_7 a).2.1 ≠ (FT_7 b).2.1 := by decide +kernel
theorem ft_7 : ∀ k, k < 9 → parseFieldDescriptor (FT_7 k).2.2.1 = some (fy_7 k) := by decide +kernel
def FT_8 : u_T := fun k => match k with
  | 0 => ("SegmentDesk$Octets", "row", "[B", true)
  | _ => ("SegmentDesk$Octets", "count", "I", false)
def fy_8 : Nat → FieldType := fun k => match k with
  | 0 => .array .byte
  | _ => .int
theorem fn_8 : ∀ a, a < 2 → ∀ b, b < 2 → a ≠ b → (FT_8 a).2.1 ≠ (FT_8 b).2.1 := by decide +kernel
theorem ft_8 : ∀ k, k < 2 → parseFieldDescriptor (FT_8 k).2.2.1 = some (fy_8 k) := by decide +kernel
def FT_9 : u_T := fun k => match k with
  | 0 => ("SegmentDeskModel", "words", "[J", true)
  | 1 => ("SegmentDeskModel", "aside", "[J", true)
  | 2 => ("SegmentDeskModel", "groups", "[J", true)
  | 3 => ("SegmentDeskModel", "len", "[I", true)
  | 4 => ("SegmentDeskModel", "octets", "[I", true)
  | 5 => ("SegmentDeskModel", "spare", "[I", true)
  | 6 => ("SegmentDeskModel", "segments", "I", false)
  | 7 => ("SegmentDeskModel", "used", "I", false)
  | 8 => ("SegmentDeskModel", "allowance", "I", false)
  | 9 => ("SegmentDeskModel", "size", "I", false)
  | 10 => ("SegmentDeskModel", "err", "I", false)
  | 11 => ("SegmentDeskModel", "own", "Z", false)
  | 12 => ("SegmentDeskModel", "where", "[I", true)
  | 13 => ("SegmentDeskModel", "depths", "[I", true)
  | 14 => ("SegmentDeskModel", "segs", "[I", true)
  | 15 => ("SegmentDeskModel", "bits", "[I", true)
  | 16 => ("SegmentDeskModel", "data", "[I", true)
  | 17 => ("SegmentDeskModel", "pointers", "[I", true)
  | 18 => ("SegmentDeskModel", "counts", "[I", true)
  | 19 => ("SegmentDeskModel", "codes", "[I", true)
  | 20 => ("SegmentDeskModel", "eachData", "[I", true)
  | 21 => ("SegmentDeskModel", "eachPointers", "[I", true)
  | 22 => ("SegmentDeskModel", "fromSeg", "[I", true)
  | 23 => ("SegmentDeskModel", "fromAt", "[I", true)
  | 24 => ("SegmentDeskModel", "toAt", "[I", true)
  | 25 => ("SegmentDeskModel", "left", "[I", true)
  | _ => ("SegmentDeskModel", "pile", "I", false)
def fy_9 : Nat → FieldType := fun k => match k with
  | 0 => .array .long
  | 1 => .array .long
  | 2 => .array .long
  | 3 => .array .int
  | 4 => .array .int
  | 5 => .array .int
  | 6 => .int
  | 7 => .int
  | 8 => .int
  | 9 => .int
  | 10 => .int
  | 11 => .boolean
  | 12 => .array .int
  | 13 => .array .int
  | 14 => .array .int
  | 15 => .array .int
  | 16 => .array .int
  | 17 => .array .int
  | 18 => .array .int
  | 19 => .array .int
  | 20 => .array .int
  | 21 => .array .int
  | 22 => .array .int
  | 23 => .array .int
  | 24 => .array .int
  | 25 => .array .int
  | _ => .int
theorem fn_9 : ∀ a, a < 27 → ∀ b, b < 27 → a ≠ b → (FT_9 a).2.1 ≠ (FT_9 b).2.1 := by decide +kernel
theorem ft_9 : ∀ k, k < 27 → parseFieldDescriptor (FT_9 k).2.2.1 = some (fy_9 k) := by decide +kernel
def pc_cl : List vw_C := [("SegmentDesk", FT_0, 8), ("SegmentDesk$Message", FT_1, 4), ("SegmentDesk$Reader", FT_2, 4), ("SegmentDesk$Builder", FT_3, 2), ("SegmentDesk$Frame", FT_4, 3), ("SegmentDesk$Canon", FT_5, 3), ("SegmentDesk$Level", FT_6, 8), ("SegmentDesk$Spot", FT_7, 9), ("SegmentDesk$Octets", FT_8, 2), ("SegmentDeskModel", FT_9, 27)]
def pc_Dv : Nat → List Value := fun ci => match ci with
  | 0 => [.null, .null, .null, .null, .null, .null, .null, .null]
  | 1 => [.null, .null, .int 0, .int 0]
  | 2 => [.int 0, .int 0, .int 0, .long 0]
  | 3 => [.int 0, .int 0]
  | 4 => [.null, .int 0, .int 0]
  | 5 => [.null, .int 0, .null]
  | 6 => [.null, .int 0, .int 0, .int 0, .int 0, .int 0, .int 0, .int 0]
  | 7 => [.int 0, .int 0, .int 0, .int 0, .int 0, .int 0, .int 0, .int 0, .int 0]
  | 8 => [.null, .int 0]
  | _ => [.null, .null, .null, .null, .null, .null, .int 0, .int 0, .int 0, .int 0, .int 0, .int 0, .null, .null, .null, .null, .null, .null, .null, .null, .null, .null, .null, .null, .null, .null, .int 0]
theorem pm_inT {w : Cond} (i : Nat) (h : tables_1[i]? = some w) (hk : pm_kp w = true) : w ∈ pm_Ts := List.mem_filter.mpr ⟨List.mem_append_right _ (List.mem_of_getElem? h), hk⟩
theorem fi_0 : ∀ w ∈ u_ws "SegmentDesk" FT_0 8, w ∈ pm_Ts := by
  intro w hw
  obtain ⟨k, hk, rfl⟩ := List.mem_map.mp hw
  have hk := List.mem_range.mp hk
  match k, hk with
  | 0, _ => exact pm_inT 257 (by decide +kernel) (by decide +kernel)
  | 1, _ => exact pm_inT 259 (by decide +kernel) (by decide +kernel)
  | 2, _ => exact pm_inT 261 (by decide +kernel) (by decide +kernel)
  | 3, _ => exact pm_inT 263 (by decide +kernel) (by decide +kernel)
  | 4, _ => exact pm_inT 265 (by decide +kernel) (by decide +kernel)
  | 5, _ => exact pm_inT 267 (by decide +kernel) (by decide +kernel)
  | 6, _ => exact pm_inT 269 (by decide +kernel) (by decide +kernel)
  | 7, _ => exact pm_inT 271 (by decide +kernel) (by decide +kernel)
  | k + 8, hk => exact absurd hk (by omega)
theorem fi_1 : ∀ w ∈ u_ws "SegmentDesk$Message" FT_1 4, w ∈ pm_Ts := by
  intro w hw
  obtain ⟨k, hk, rfl⟩ := List.mem_map.mp hw
  have hk := List.mem_range.mp hk
  match k, hk with
  | 0, _ => exact pm_inT 60 (by decide +kernel) (by decide +kernel)
  | 1, _ => exact pm_inT 62 (by decide +kernel) (by decide +kernel)
  | 2, _ => exact pm_inT 64 (by decide +kernel) (by decide +kernel)
  | 3, _ => exact pm_inT 66 (by decide +kernel) (by decide +kernel)
  | k + 4, hk => exact absurd hk (by omega)
theorem fi_2 : ∀ w ∈ u_ws "SegmentDesk$Reader" FT_2 4, w ∈ pm_Ts := by
  intro w hw
  obtain ⟨k, hk, rfl⟩ := List.mem_map.mp hw
  have hk := List.mem_range.mp hk
  match k, hk with
  | 0, _ => exact pm_inT 82 (by decide +kernel) (by decide +kernel)
  | 1, _ => exact pm_inT 84 (by decide +kernel) (by decide +kernel)
  | 2, _ => exact pm_inT 86 (by decide +kernel) (by decide +kernel)
  | 3, _ => exact pm_inT 88 (by decide +kernel) (by decide +kernel)
  | k + 4, hk => exact absurd hk (by omega)
theorem fi_3 : ∀ w ∈ u_ws "SegmentDesk$Builder" FT_3 2, w ∈ pm_Ts := by
  intro w hw
  obtain ⟨k, hk, rfl⟩ := List.mem_map.mp hw
  have hk := List.mem_range.mp hk
  match k, hk with
  | 0, _ => exact pm_inT 101 (by decide +kernel) (by decide +kernel)
  | 1, _ => exact pm_inT 103 (by decide +kernel) (by decide +kernel)
  | k + 2, hk => exact absurd hk (by omega)
theorem fi_4 : ∀ w ∈ u_ws "SegmentDesk$Frame" FT_4 3, w ∈ pm_Ts := by
  intro w hw
  obtain ⟨k, hk, rfl⟩ := List.mem_map.mp hw
  have hk := List.mem_range.mp hk
  match k, hk with
  | 0, _ => exact pm_inT 115 (by decide +kernel) (by decide +kernel)
  | 1, _ => exact pm_inT 117 (by decide +kernel) (by decide +kernel)
  | 2, _ => exact pm_inT 119 (by decide +kernel) (by decide +kernel)
  | k + 3, hk => exact absurd hk (by omega)
theorem fi_5 : ∀ w ∈ u_ws "SegmentDesk$Canon" FT_5 3, w ∈ pm_Ts := by
  intro w hw
  obtain ⟨k, hk, rfl⟩ := List.mem_map.mp hw
  have hk := List.mem_range.mp hk
  match k, hk with
  | 0, _ => exact pm_inT 221 (by decide +kernel) (by decide +kernel)
  | 1, _ => exact pm_inT 223 (by decide +kernel) (by decide +kernel)
  | 2, _ => exact pm_inT 225 (by decide +kernel) (by decide +kernel)
  | k + 3, hk => exact absurd hk (by omega)
theorem fi_6 : ∀ w ∈ u_ws "SegmentDesk$Level" FT_6 8, w ∈ pm_Ts := by
  intro w hw
  obtain ⟨k, hk, rfl⟩ := List.mem_map.mp hw
  have hk := List.mem_range.mp hk
  match k, hk with
  | 0, _ => exact pm_inT 199 (by decide +kernel) (by decide +kernel)
  | 1, _ => exact pm_inT 201 (by decide +kernel) (by decide +kernel)
  | 2, _ => exact pm_inT 203 (by decide +kernel) (by decide +kernel)
  | 3, _ => exact pm_inT 205 (by decide +kernel) (by decide +kernel)
  | 4, _ => exact pm_inT 207 (by decide +kernel) (by decide +kernel)
  | 5, _ => exact pm_inT 209 (by decide +kernel) (by decide +kernel)
  | 6, _ => exact pm_inT 211 (by decide +kernel) (by decide +kernel)
  | 7, _ => exact pm_inT 213 (by decide +kernel) (by decide +kernel)
  | k + 8, hk => exact absurd hk (by omega)
theorem fi_7 : ∀ w ∈ u_ws "SegmentDesk$Spot" FT_7 9, w ∈ pm_Ts := by
  intro w hw
  obtain ⟨k, hk, rfl⟩ := List.mem_map.mp hw
  have hk := List.mem_range.mp hk
  match k, hk with
  | 0, _ => exact pm_inT 166 (by decide +kernel) (by decide +kernel)
  | 1, _ => exact pm_inT 168 (by decide +kernel) (by decide +kernel)
  | 2, _ => exact pm_inT 170 (by decide +kernel) (by decide +kernel)
  | 3, _ => exact pm_inT 172 (by decide +kernel) (by decide +kernel)
  | 4, _ => exact pm_inT 174 (by decide +kernel) (by decide +kernel)
  | 5, _ => exact pm_inT 176 (by decide +kernel) (by decide +kernel)
  | 6, _ => exact pm_inT 178 (by decide +kernel) (by decide +kernel)
  | 7, _ => exact pm_inT 180 (by decide +kernel) (by decide +kernel)
  | 8, _ => exact pm_inT 182 (by decide +kernel) (by decide +kernel)
  | k + 9, hk => exact absurd hk (by omega)
theorem fi_8 : ∀ w ∈ u_ws "SegmentDesk$Octets" FT_8 2, w ∈ pm_Ts := by
  intro w hw
  obtain ⟨k, hk, rfl⟩ := List.mem_map.mp hw
  have hk := List.mem_range.mp hk
  match k, hk with
  | 0, _ => exact pm_inT 242 (by decide +kernel) (by decide +kernel)
  | 1, _ => exact pm_inT 244 (by decide +kernel) (by decide +kernel)
  | k + 2, hk => exact absurd hk (by omega)
theorem fi_9 : ∀ w ∈ u_ws "SegmentDeskModel" FT_9 27, w ∈ pm_Ts := by
  intro w hw
  obtain ⟨k, hk, rfl⟩ := List.mem_map.mp hw
  have hk := List.mem_range.mp hk
  match k, hk with
  | 0, _ => exact pm_inT 1074 (by decide +kernel) (by decide +kernel)
  | 1, _ => exact pm_inT 1076 (by decide +kernel) (by decide +kernel)
  | 2, _ => exact pm_inT 1078 (by decide +kernel) (by decide +kernel)
  | 3, _ => exact pm_inT 1080 (by decide +kernel) (by decide +kernel)
  | 4, _ => exact pm_inT 1082 (by decide +kernel) (by decide +kernel)
  | 5, _ => exact pm_inT 1084 (by decide +kernel) (by decide +kernel)
  | 6, _ => exact pm_inT 1086 (by decide +kernel) (by decide +kernel)
  | 7, _ => exact pm_inT 1088 (by decide +kernel) (by decide +kernel)
  | 8, _ => exact pm_inT 1090 (by decide +kernel) (by decide +kernel)
  | 9, _ => exact pm_inT 1092 (by decide +kernel) (by decide +kernel)
  | 10, _ => exact pm_inT 1094 (by decide +kernel) (by decide +kernel)
  | 11, _ => exact pm_inT 1096 (by decide +kernel) (by decide +kernel)
  | 12, _ => exact pm_inT 1098 (by decide +kernel) (by decide +kernel)
  | 13, _ => exact pm_inT 1100 (by decide +kernel) (by decide +kernel)
  | 14, _ => exact pm_inT 1102 (by decide +kernel) (by decide +kernel)
  | 15, _ => exact pm_inT 1104 (by decide +kernel) (by decide +kernel)
  | 16, _ => exact pm_inT 1106 (by decide +kernel) (by decide +kernel)
  | 17, _ => exact pm_inT 1108 (by decide +kernel) (by decide +kernel)
  | 18, _ => exact pm_inT 1110 (by decide +kernel) (by decide +kernel)
  | 19, _ => exact pm_inT 1112 (by decide +kernel) (by decide +kernel)
  | 20, _ => exact pm_inT 1114 (by decide +kernel) (by decide +kernel)
  | 21, _ => exact pm_inT 1116 (by decide +kernel) (by decide +kernel)
  | 22, _ => exact pm_inT 1118 (by decide +kernel) (by decide +kernel)
  | 23, _ => exact pm_inT 1120 (by decide +kernel) (by decide +kernel)
  | 24, _ => exact pm_inT 1122 (by decide +kernel) (by decide +kernel)
  | 25, _ => exact pm_inT 1124 (by decide +kernel) (by decide +kernel)
  | 26, _ => exact pm_inT 1126 (by decide +kernel) (by decide +kernel)
  | k + 27, hk => exact absurd hk (by omega)
